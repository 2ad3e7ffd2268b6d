theorem dX3_init_0 : decode cX3_init 0 = .ok (.aload_n 0, 1) := by decide +kernel
theorem dX3_init_1 : decode cX3_init 1 = .ok (.invokespecial 1, 3) := by decide +kernel
theorem dX3_init_4 : decode cX3_init 4 = .ok (.aload_n 0, 1) := by decide +kernel
theorem dX3_init_5 : decode cX3_init 5 = .ok (.bipush 31, 2) := by decide +kernel
theorem dX3_init_7 : decode cX3_init 7 = .ok (.newarray .int, 2) := by decide +kernel
theorem dX3_init_9 : decode cX3_init 9 = .ok (.putfield 7, 3) := by decide +kernel
theorem dX3_init_12 : decode cX3_init 12 = .ok (.aload_n 0, 1) := by decide +kernel
theorem dX3_init_13 : decode cX3_init 13 = .ok (.bipush 31, 2) := by decide +kernel
theorem dX3_init_15 : decode cX3_init 15 = .ok (.newarray .int, 2) := by decide +kernel
theorem dX3_init_17 : decode cX3_init 17 = .ok (.putfield 13, 3) := by decide +kernel
theorem dX3_init_20 : decode cX3_init 20 = .ok (.aload_n 0, 1) := by decide +kernel
theorem dX3_init_21 : decode cX3_init 21 = .ok (.bipush 31, 2) := by decide +kernel
theorem dX3_init_23 : decode cX3_init 23 = .ok (.newarray .int, 2) := by decide +kernel
theorem dX3_init_25 : decode cX3_init 25 = .ok (.putfield 16, 3) := by decide +kernel
theorem dX3_init_28 : decode cX3_init 28 = .ok (.aload_n 0, 1) := by decide +kernel
theorem dX3_init_29 : decode cX3_init 29 = .ok (.bipush 31, 2) := by decide +kernel
theorem dX3_init_31 : decode cX3_init 31 = .ok (.newarray .int, 2) := by decide +kernel
theorem dX3_init_33 : decode cX3_init 33 = .ok (.putfield 19, 3) := by decide +kernel
theorem dX3_init_36 : decode cX3_init 36 = .ok (.aload_n 0, 1) := by decide +kernel
theorem dX3_init_37 : decode cX3_init 37 = .ok (.bipush 80, 2) := by decide +kernel
theorem dX3_init_39 : decode cX3_init 39 = .ok (.newarray .int, 2) := by decide +kernel
theorem dX3_init_41 : decode cX3_init 41 = .ok (.putfield 22, 3) := by decide +kernel
theorem dX3_init_44 : decode cX3_init 44 = .ok (.aload_n 0, 1) := by decide +kernel
theorem dX3_init_45 : decode cX3_init 45 = .ok (.bipush 20, 2) := by decide +kernel
theorem dX3_init_47 : decode cX3_init 47 = .ok (.newarray .int, 2) := by decide +kernel
theorem dX3_init_49 : decode cX3_init 49 = .ok (.putfield 25, 3) := by decide +kernel
theorem dX3_init_52 : decode cX3_init 52 = .ok (.aload_n 0, 1) := by decide +kernel
theorem dX3_init_53 : decode cX3_init 53 = .ok (.bipush 20, 2) := by decide +kernel
theorem dX3_init_55 : decode cX3_init 55 = .ok (.newarray .int, 2) := by decide +kernel
theorem dX3_init_57 : decode cX3_init 57 = .ok (.putfield 28, 3) := by decide +kernel
theorem dX3_init_60 : decode cX3_init 60 = .ok (.aload_n 0, 1) := by decide +kernel
theorem dX3_init_61 : decode cX3_init 61 = .ok (.bipush 12, 2) := by decide +kernel
theorem dX3_init_63 : decode cX3_init 63 = .ok (.newarray .int, 2) := by decide +kernel
theorem dX3_init_65 : decode cX3_init 65 = .ok (.putfield 31, 3) := by decide +kernel
theorem dX3_init_68 : decode cX3_init 68 = .ok (.aload_n 0, 1) := by decide +kernel
theorem dX3_init_69 : decode cX3_init 69 = .ok (.bipush 12, 2) := by decide +kernel
theorem dX3_init_71 : decode cX3_init 71 = .ok (.newarray .int, 2) := by decide +kernel
theorem dX3_init_73 : decode cX3_init 73 = .ok (.putfield 34, 3) := by decide +kernel
theorem dX3_init_76 : decode cX3_init 76 = .ok (.aload_n 0, 1) := by decide +kernel
theorem dX3_init_77 : decode cX3_init 77 = .ok (.sipush 1300, 3) := by decide +kernel
theorem dX3_init_80 : decode cX3_init 80 = .ok (.newarray .int, 2) := by decide +kernel
theorem dX3_init_82 : decode cX3_init 82 = .ok (.putfield 37, 3) := by decide +kernel
theorem dX3_init_85 : decode cX3_init 85 = .ok (.aload_n 0, 1) := by decide +kernel
theorem dX3_init_86 : decode cX3_init 86 = .ok (.bipush 12, 2) := by decide +kernel
theorem dX3_init_88 : decode cX3_init 88 = .ok (.newarray .int, 2) := by decide +kernel
theorem dX3_init_90 : decode cX3_init 90 = .ok (.putfield 40, 3) := by decide +kernel
theorem dX3_init_93 : decode cX3_init 93 = .ok (.aload_n 0, 1) := by decide +kernel
theorem dX3_init_94 : decode cX3_init 94 = .ok (.sipush 1300, 3) := by decide +kernel
theorem dX3_init_97 : decode cX3_init 97 = .ok (.newarray .int, 2) := by decide +kernel
theorem dX3_init_99 : decode cX3_init 99 = .ok (.putfield 43, 3) := by decide +kernel
theorem dX3_init_102 : decode cX3_init 102 = .ok (.aload_n 0, 1) := by decide +kernel
theorem dX3_init_103 : decode cX3_init 103 = .ok (.bipush 32, 2) := by decide +kernel
theorem dX3_init_105 : decode cX3_init 105 = .ok (.newarray .int, 2) := by decide +kernel
theorem dX3_init_107 : decode cX3_init 107 = .ok (.putfield 46, 3) := by decide +kernel
theorem dX3_init_110 : decode cX3_init 110 = .ok (.aload_n 0, 1) := by decide +kernel
theorem dX3_init_111 : decode cX3_init 111 = .ok (.bipush 32, 2) := by decide +kernel
theorem dX3_init_113 : decode cX3_init 113 = .ok (.newarray .int, 2) := by decide +kernel
theorem dX3_init_115 : decode cX3_init 115 = .ok (.putfield 49, 3) := by decide +kernel
theorem dX3_init_118 : decode cX3_init 118 = .ok (.aload_n 0, 1) := by decide +kernel
theorem dX3_init_119 : decode cX3_init 119 = .ok (.sipush 2500, 3) := by decide +kernel
theorem dX3_init_122 : decode cX3_init 122 = .ok (.newarray .int, 2) := by decide +kernel
theorem dX3_init_124 : decode cX3_init 124 = .ok (.putfield 52, 3) := by decide +kernel
theorem dX3_init_127 : decode cX3_init 127 = .ok (.aload_n 0, 1) := by decide +kernel
theorem dX3_init_128 : decode cX3_init 128 = .ok (.sipush 2500, 3) := by decide +kernel
theorem dX3_init_131 : decode cX3_init 131 = .ok (.newarray .int, 2) := by decide +kernel
theorem dX3_init_133 : decode cX3_init 133 = .ok (.putfield 55, 3) := by decide +kernel
theorem dX3_init_136 : decode cX3_init 136 = .ok (.aload_n 0, 1) := by decide +kernel
theorem dX3_init_137 : decode cX3_init 137 = .ok (.sipush 2500, 3) := by decide +kernel
theorem dX3_init_140 : decode cX3_init 140 = .ok (.newarray .long, 2) := by decide +kernel
theorem dX3_init_142 : decode cX3_init 142 = .ok (.putfield 58, 3) := by decide +kernel
theorem dX3_init_145 : decode cX3_init 145 = .ok (.aload_n 0, 1) := by decide +kernel
theorem dX3_init_146 : decode cX3_init 146 = .ok (.sipush 4096, 3) := by decide +kernel
theorem dX3_init_149 : decode cX3_init 149 = .ok (.newarray .int, 2) := by decide +kernel
theorem dX3_init_151 : decode cX3_init 151 = .ok (.putfield 62, 3) := by decide +kernel
theorem dX3_init_154 : decode cX3_init 154 = .ok (.aload_n 0, 1) := by decide +kernel
theorem dX3_init_155 : decode cX3_init 155 = .ok (.bipush 20, 2) := by decide +kernel
theorem dX3_init_157 : decode cX3_init 157 = .ok (.newarray .int, 2) := by decide +kernel
theorem dX3_init_159 : decode cX3_init 159 = .ok (.putfield 65, 3) := by decide +kernel
theorem dX3_init_162 : decode cX3_init 162 = .ok (.aload_n 0, 1) := by decide +kernel
theorem dX3_init_163 : decode cX3_init 163 = .ok (.bipush 20, 2) := by decide +kernel
theorem dX3_init_165 : decode cX3_init 165 = .ok (.newarray .boolean, 2) := by decide +kernel
theorem dX3_init_167 : decode cX3_init 167 = .ok (.putfield 68, 3) := by decide +kernel
theorem dX3_init_170 : decode cX3_init 170 = .ok (.aload_n 0, 1) := by decide +kernel
theorem dX3_init_171 : decode cX3_init 171 = .ok (.iload_n 1, 1) := by decide +kernel
theorem dX3_init_172 : decode cX3_init 172 = .ok (.iconst 1, 1) := by decide +kernel
theorem dX3_init_173 : decode cX3_init 173 = .ok (.if_icmp .lt 8, 3) := by decide +kernel
theorem dX3_init_176 : decode cX3_init 176 = .ok (.iload_n 1, 1) := by decide +kernel
theorem dX3_init_177 : decode cX3_init 177 = .ok (.iconst 4, 1) := by decide +kernel
theorem dX3_init_178 : decode cX3_init 178 = .ok (.if_icmp .le 7, 3) := by decide +kernel
theorem dX3_init_181 : decode cX3_init 181 = .ok (.iconst 2, 1) := by decide +kernel
theorem dX3_init_182 : decode cX3_init 182 = .ok (.goto 4, 3) := by decide +kernel
theorem dX3_init_185 : decode cX3_init 185 = .ok (.iload_n 1, 1) := by decide +kernel
theorem dX3_init_186 : decode cX3_init 186 = .ok (.putfield 72, 3) := by decide +kernel
theorem dX3_init_189 : decode cX3_init 189 = .ok (.aload_n 0, 1) := by decide +kernel
theorem dX3_init_190 : decode cX3_init 190 = .ok (.iload_n 2, 1) := by decide +kernel
theorem dX3_init_191 : decode cX3_init 191 = .ok (.iconst 1, 1) := by decide +kernel
theorem dX3_init_192 : decode cX3_init 192 = .ok (.if_icmp .lt 8, 3) := by decide +kernel
theorem dX3_init_195 : decode cX3_init 195 = .ok (.iload_n 2, 1) := by decide +kernel
theorem dX3_init_196 : decode cX3_init 196 = .ok (.iconst 3, 1) := by decide +kernel
theorem dX3_init_197 : decode cX3_init 197 = .ok (.if_icmp .le 7, 3) := by decide +kernel
theorem dX3_init_200 : decode cX3_init 200 = .ok (.iconst 2, 1) := by decide +kernel
theorem dX3_init_201 : decode cX3_init 201 = .ok (.goto 4, 3) := by decide +kernel
theorem dX3_init_204 : decode cX3_init 204 = .ok (.iload_n 2, 1) := by decide +kernel
theorem dX3_init_205 : decode cX3_init 205 = .ok (.putfield 76, 3) := by decide +kernel
theorem dX3_init_208 : decode cX3_init 208 = .ok (.aload_n 0, 1) := by decide +kernel
theorem dX3_init_209 : decode cX3_init 209 = .ok (.aload_n 0, 1) := by decide +kernel
theorem dX3_init_210 : decode cX3_init 210 = .ok (.getfield 72, 3) := by decide +kernel
theorem dX3_init_213 : decode cX3_init 213 = .ok (.iconst 1, 1) := by decide +kernel
theorem dX3_init_214 : decode cX3_init 214 = .ok (.iadd, 1) := by decide +kernel
theorem dX3_init_215 : decode cX3_init 215 = .ok (.aload_n 0, 1) := by decide +kernel
theorem dX3_init_216 : decode cX3_init 216 = .ok (.getfield 76, 3) := by decide +kernel
theorem dX3_init_219 : decode cX3_init 219 = .ok (.iconst 1, 1) := by decide +kernel
theorem dX3_init_220 : decode cX3_init 220 = .ok (.iadd, 1) := by decide +kernel
theorem dX3_init_221 : decode cX3_init 221 = .ok (.imul, 1) := by decide +kernel
theorem dX3_init_222 : decode cX3_init 222 = .ok (.putfield 79, 3) := by decide +kernel
theorem dX3_init_225 : decode cX3_init 225 = .ok (.iconst 0, 1) := by decide +kernel
theorem dX3_init_226 : decode cX3_init 226 = .ok (.istore_n 3, 1) := by decide +kernel
theorem dX3_init_227 : decode cX3_init 227 = .ok (.iload_n 3, 1) := by decide +kernel
theorem dX3_init_228 : decode cX3_init 228 = .ok (.bipush 12, 2) := by decide +kernel
theorem dX3_init_230 : decode cX3_init 230 = .ok (.if_icmp .ge 24, 3) := by decide +kernel
theorem dX3_init_233 : decode cX3_init 233 = .ok (.aload_n 0, 1) := by decide +kernel
theorem dX3_init_234 : decode cX3_init 234 = .ok (.getfield 40, 3) := by decide +kernel
theorem dX3_init_237 : decode cX3_init 237 = .ok (.iload_n 3, 1) := by decide +kernel
theorem dX3_init_238 : decode cX3_init 238 = .ok (.iconst (-1), 1) := by decide +kernel
theorem dX3_init_239 : decode cX3_init 239 = .ok (.iastore, 1) := by decide +kernel
theorem dX3_init_240 : decode cX3_init 240 = .ok (.aload_n 0, 1) := by decide +kernel
theorem dX3_init_241 : decode cX3_init 241 = .ok (.getfield 31, 3) := by decide +kernel
theorem dX3_init_244 : decode cX3_init 244 = .ok (.iload_n 3, 1) := by decide +kernel
theorem dX3_init_245 : decode cX3_init 245 = .ok (.bipush 99, 2) := by decide +kernel
theorem dX3_init_247 : decode cX3_init 247 = .ok (.iastore, 1) := by decide +kernel
theorem dX3_init_248 : decode cX3_init 248 = .ok (.iinc 3 1, 3) := by decide +kernel
theorem dX3_init_251 : decode cX3_init 251 = .ok (.goto (-24), 3) := by decide +kernel
theorem dX3_init_254 : decode cX3_init 254 = .ok (.iconst 0, 1) := by decide +kernel
theorem dX3_init_255 : decode cX3_init 255 = .ok (.istore_n 3, 1) := by decide +kernel
theorem dX3_init_256 : decode cX3_init 256 = .ok (.iload_n 3, 1) := by decide +kernel
theorem dX3_init_257 : decode cX3_init 257 = .ok (.bipush 80, 2) := by decide +kernel
theorem dX3_init_259 : decode cX3_init 259 = .ok (.if_icmp .ge 16, 3) := by decide +kernel
theorem dX3_init_262 : decode cX3_init 262 = .ok (.aload_n 0, 1) := by decide +kernel
theorem dX3_init_263 : decode cX3_init 263 = .ok (.getfield 22, 3) := by decide +kernel
theorem dX3_init_266 : decode cX3_init 266 = .ok (.iload_n 3, 1) := by decide +kernel
theorem dX3_init_267 : decode cX3_init 267 = .ok (.iconst (-1), 1) := by decide +kernel
theorem dX3_init_268 : decode cX3_init 268 = .ok (.iastore, 1) := by decide +kernel
theorem dX3_init_269 : decode cX3_init 269 = .ok (.iinc 3 1, 3) := by decide +kernel
theorem dX3_init_272 : decode cX3_init 272 = .ok (.goto (-16), 3) := by decide +kernel
theorem dX3_init_275 : decode cX3_init 275 = .ok (.iconst 0, 1) := by decide +kernel
theorem dX3_init_276 : decode cX3_init 276 = .ok (.istore_n 3, 1) := by decide +kernel
theorem dX3_init_277 : decode cX3_init 277 = .ok (.iload_n 3, 1) := by decide +kernel
theorem dX3_init_278 : decode cX3_init 278 = .ok (.aload_n 0, 1) := by decide +kernel
theorem dX3_init_279 : decode cX3_init 279 = .ok (.getfield 79, 3) := by decide +kernel
theorem dX3_init_282 : decode cX3_init 282 = .ok (.if_icmp .ge 17, 3) := by decide +kernel
theorem dX3_init_285 : decode cX3_init 285 = .ok (.aload_n 0, 1) := by decide +kernel
theorem dX3_init_286 : decode cX3_init 286 = .ok (.getfield 25, 3) := by decide +kernel
theorem dX3_init_289 : decode cX3_init 289 = .ok (.iload_n 3, 1) := by decide +kernel
theorem dX3_init_290 : decode cX3_init 290 = .ok (.bipush 99, 2) := by decide +kernel
theorem dX3_init_292 : decode cX3_init 292 = .ok (.iastore, 1) := by decide +kernel
theorem dX3_init_293 : decode cX3_init 293 = .ok (.iinc 3 1, 3) := by decide +kernel
theorem dX3_init_296 : decode cX3_init 296 = .ok (.goto (-19), 3) := by decide +kernel
theorem dX3_init_299 : decode cX3_init 299 = .ok (.iconst 0, 1) := by decide +kernel
theorem dX3_init_300 : decode cX3_init 300 = .ok (.istore_n 3, 1) := by decide +kernel
theorem dX3_init_301 : decode cX3_init 301 = .ok (.iload_n 3, 1) := by decide +kernel
theorem dX3_init_302 : decode cX3_init 302 = .ok (.aload_n 0, 1) := by decide +kernel
theorem dX3_init_303 : decode cX3_init 303 = .ok (.getfield 79, 3) := by decide +kernel
theorem dX3_init_306 : decode cX3_init 306 = .ok (.if_icmp .ge 104, 3) := by decide +kernel
theorem dX3_init_309 : decode cX3_init 309 = .ok (.iload_n 3, 1) := by decide +kernel
theorem dX3_init_310 : decode cX3_init 310 = .ok (.aload_n 0, 1) := by decide +kernel
theorem dX3_init_311 : decode cX3_init 311 = .ok (.getfield 76, 3) := by decide +kernel
theorem dX3_init_314 : decode cX3_init 314 = .ok (.iconst 1, 1) := by decide +kernel
theorem dX3_init_315 : decode cX3_init 315 = .ok (.iadd, 1) := by decide +kernel
theorem dX3_init_316 : decode cX3_init 316 = .ok (.idiv, 1) := by decide +kernel
theorem dX3_init_317 : decode cX3_init 317 = .ok (.istore 4, 2) := by decide +kernel
theorem dX3_init_319 : decode cX3_init 319 = .ok (.iload_n 3, 1) := by decide +kernel
theorem dX3_init_320 : decode cX3_init 320 = .ok (.aload_n 0, 1) := by decide +kernel
theorem dX3_init_321 : decode cX3_init 321 = .ok (.getfield 76, 3) := by decide +kernel
theorem dX3_init_324 : decode cX3_init 324 = .ok (.iconst 1, 1) := by decide +kernel
theorem dX3_init_325 : decode cX3_init 325 = .ok (.iadd, 1) := by decide +kernel
theorem dX3_init_326 : decode cX3_init 326 = .ok (.irem, 1) := by decide +kernel
theorem dX3_init_327 : decode cX3_init 327 = .ok (.istore 5, 2) := by decide +kernel
theorem dX3_init_329 : decode cX3_init 329 = .ok (.iload 5, 2) := by decide +kernel
theorem dX3_init_331 : decode cX3_init 331 = .ok (.aload_n 0, 1) := by decide +kernel
theorem dX3_init_332 : decode cX3_init 332 = .ok (.getfield 76, 3) := by decide +kernel
theorem dX3_init_335 : decode cX3_init 335 = .ok (.if_icmp .ge 29, 3) := by decide +kernel
theorem dX3_init_338 : decode cX3_init 338 = .ok (.aload_n 0, 1) := by decide +kernel
theorem dX3_init_339 : decode cX3_init 339 = .ok (.iload_n 3, 1) := by decide +kernel
theorem dX3_init_340 : decode cX3_init 340 = .ok (.iload_n 3, 1) := by decide +kernel
theorem dX3_init_341 : decode cX3_init 341 = .ok (.iconst 1, 1) := by decide +kernel
theorem dX3_init_342 : decode cX3_init 342 = .ok (.iadd, 1) := by decide +kernel
theorem dX3_init_343 : decode cX3_init 343 = .ok (.aload_n 0, 1) := by decide +kernel
theorem dX3_init_344 : decode cX3_init 344 = .ok (.iload 4, 2) := by decide +kernel
theorem dX3_init_346 : decode cX3_init 346 = .ok (.iconst 1, 1) := by decide +kernel
theorem dX3_init_347 : decode cX3_init 347 = .ok (.isub, 1) := by decide +kernel
theorem dX3_init_348 : decode cX3_init 348 = .ok (.iload 5, 2) := by decide +kernel
theorem dX3_init_350 : decode cX3_init 350 = .ok (.invokevirtual 82, 3) := by decide +kernel
theorem dX3_init_353 : decode cX3_init 353 = .ok (.aload_n 0, 1) := by decide +kernel
theorem dX3_init_354 : decode cX3_init 354 = .ok (.iload 4, 2) := by decide +kernel
theorem dX3_init_356 : decode cX3_init 356 = .ok (.iload 5, 2) := by decide +kernel
theorem dX3_init_358 : decode cX3_init 358 = .ok (.invokevirtual 82, 3) := by decide +kernel
theorem dX3_init_361 : decode cX3_init 361 = .ok (.invokevirtual 86, 3) := by decide +kernel
theorem dX3_init_364 : decode cX3_init 364 = .ok (.iload 4, 2) := by decide +kernel
theorem dX3_init_366 : decode cX3_init 366 = .ok (.aload_n 0, 1) := by decide +kernel
theorem dX3_init_367 : decode cX3_init 367 = .ok (.getfield 72, 3) := by decide +kernel
theorem dX3_init_370 : decode cX3_init 370 = .ok (.if_icmp .ge 34, 3) := by decide +kernel
theorem dX3_init_373 : decode cX3_init 373 = .ok (.aload_n 0, 1) := by decide +kernel
theorem dX3_init_374 : decode cX3_init 374 = .ok (.iload_n 3, 1) := by decide +kernel
theorem dX3_init_375 : decode cX3_init 375 = .ok (.iload_n 3, 1) := by decide +kernel
theorem dX3_init_376 : decode cX3_init 376 = .ok (.aload_n 0, 1) := by decide +kernel
theorem dX3_init_377 : decode cX3_init 377 = .ok (.getfield 76, 3) := by decide +kernel
theorem dX3_init_380 : decode cX3_init 380 = .ok (.iadd, 1) := by decide +kernel
theorem dX3_init_381 : decode cX3_init 381 = .ok (.iconst 1, 1) := by decide +kernel
theorem dX3_init_382 : decode cX3_init 382 = .ok (.iadd, 1) := by decide +kernel
theorem dX3_init_383 : decode cX3_init 383 = .ok (.aload_n 0, 1) := by decide +kernel
theorem dX3_init_384 : decode cX3_init 384 = .ok (.iload 4, 2) := by decide +kernel
theorem dX3_init_386 : decode cX3_init 386 = .ok (.iload 5, 2) := by decide +kernel
theorem dX3_init_388 : decode cX3_init 388 = .ok (.iconst 1, 1) := by decide +kernel
theorem dX3_init_389 : decode cX3_init 389 = .ok (.isub, 1) := by decide +kernel
theorem dX3_init_390 : decode cX3_init 390 = .ok (.invokevirtual 82, 3) := by decide +kernel
theorem dX3_init_393 : decode cX3_init 393 = .ok (.aload_n 0, 1) := by decide +kernel
theorem dX3_init_394 : decode cX3_init 394 = .ok (.iload 4, 2) := by decide +kernel
theorem dX3_init_396 : decode cX3_init 396 = .ok (.iload 5, 2) := by decide +kernel
theorem dX3_init_398 : decode cX3_init 398 = .ok (.invokevirtual 82, 3) := by decide +kernel
theorem dX3_init_401 : decode cX3_init 401 = .ok (.invokevirtual 86, 3) := by decide +kernel
theorem dX3_init_404 : decode cX3_init 404 = .ok (.iinc 3 1, 3) := by decide +kernel
theorem dX3_init_407 : decode cX3_init 407 = .ok (.goto (-106), 3) := by decide +kernel
theorem dX3_init_410 : decode cX3_init 410 = .ok (.aload_n 0, 1) := by decide +kernel
theorem dX3_init_411 : decode cX3_init 411 = .ok (.invokevirtual 90, 3) := by decide +kernel
theorem dX3_init_414 : decode cX3_init 414 = .ok (.return_, 1) := by decide +kernel
theorem dX3_cell_0 : decode cX3_cell 0 = .ok (.iload_n 1, 1) := by decide +kernel
theorem dX3_cell_1 : decode cX3_cell 1 = .ok (.ifCond .lt 23, 3) := by decide +kernel
theorem dX3_cell_4 : decode cX3_cell 4 = .ok (.iload_n 1, 1) := by decide +kernel
theorem dX3_cell_5 : decode cX3_cell 5 = .ok (.aload_n 0, 1) := by decide +kernel
theorem dX3_cell_6 : decode cX3_cell 6 = .ok (.getfield 72, 3) := by decide +kernel
theorem dX3_cell_9 : decode cX3_cell 9 = .ok (.if_icmp .ge 15, 3) := by decide +kernel
theorem dX3_cell_12 : decode cX3_cell 12 = .ok (.iload_n 2, 1) := by decide +kernel
theorem dX3_cell_13 : decode cX3_cell 13 = .ok (.ifCond .lt 11, 3) := by decide +kernel
theorem dX3_cell_16 : decode cX3_cell 16 = .ok (.iload_n 2, 1) := by decide +kernel
theorem dX3_cell_17 : decode cX3_cell 17 = .ok (.aload_n 0, 1) := by decide +kernel
theorem dX3_cell_18 : decode cX3_cell 18 = .ok (.getfield 76, 3) := by decide +kernel
theorem dX3_cell_21 : decode cX3_cell 21 = .ok (.if_icmp .lt 7, 3) := by decide +kernel
theorem dX3_cell_24 : decode cX3_cell 24 = .ok (.iconst (-1), 1) := by decide +kernel
theorem dX3_cell_25 : decode cX3_cell 25 = .ok (.goto 11, 3) := by decide +kernel
theorem dX3_cell_28 : decode cX3_cell 28 = .ok (.iload_n 1, 1) := by decide +kernel
theorem dX3_cell_29 : decode cX3_cell 29 = .ok (.aload_n 0, 1) := by decide +kernel
theorem dX3_cell_30 : decode cX3_cell 30 = .ok (.getfield 76, 3) := by decide +kernel
theorem dX3_cell_33 : decode cX3_cell 33 = .ok (.imul, 1) := by decide +kernel
theorem dX3_cell_34 : decode cX3_cell 34 = .ok (.iload_n 2, 1) := by decide +kernel
theorem dX3_cell_35 : decode cX3_cell 35 = .ok (.iadd, 1) := by decide +kernel
theorem dX3_cell_36 : decode cX3_cell 36 = .ok (.ireturn, 1) := by decide +kernel
theorem dX3_meet_0 : decode cX3_meet 0 = .ok (.iconst 4, 1) := by decide +kernel
theorem dX3_meet_1 : decode cX3_meet 1 = .ok (.iload_n 1, 1) := by decide +kernel
theorem dX3_meet_2 : decode cX3_meet 2 = .ok (.imul, 1) := by decide +kernel
theorem dX3_meet_3 : decode cX3_meet 3 = .ok (.istore_n 3, 1) := by decide +kernel
theorem dX3_meet_4 : decode cX3_meet 4 = .ok (.aload_n 0, 1) := by decide +kernel
theorem dX3_meet_5 : decode cX3_meet 5 = .ok (.getfield 22, 3) := by decide +kernel
theorem dX3_meet_8 : decode cX3_meet 8 = .ok (.iload_n 3, 1) := by decide +kernel
theorem dX3_meet_9 : decode cX3_meet 9 = .ok (.iaload, 1) := by decide +kernel
theorem dX3_meet_10 : decode cX3_meet 10 = .ok (.ifCond .lt 9, 3) := by decide +kernel
theorem dX3_meet_13 : decode cX3_meet 13 = .ok (.iinc 3 1, 3) := by decide +kernel
theorem dX3_meet_16 : decode cX3_meet 16 = .ok (.goto (-12), 3) := by decide +kernel
theorem dX3_meet_19 : decode cX3_meet 19 = .ok (.aload_n 0, 1) := by decide +kernel
theorem dX3_meet_20 : decode cX3_meet 20 = .ok (.getfield 22, 3) := by decide +kernel
theorem dX3_meet_23 : decode cX3_meet 23 = .ok (.iload_n 3, 1) := by decide +kernel
theorem dX3_meet_24 : decode cX3_meet 24 = .ok (.iload_n 2, 1) := by decide +kernel
theorem dX3_meet_25 : decode cX3_meet 25 = .ok (.iastore, 1) := by decide +kernel
theorem dX3_meet_26 : decode cX3_meet 26 = .ok (.aload_n 0, 1) := by decide +kernel
theorem dX3_meet_27 : decode cX3_meet 27 = .ok (.getfield 25, 3) := by decide +kernel
theorem dX3_meet_30 : decode cX3_meet 30 = .ok (.iload_n 1, 1) := by decide +kernel
theorem dX3_meet_31 : decode cX3_meet 31 = .ok (.iload_n 2, 1) := by decide +kernel
theorem dX3_meet_32 : decode cX3_meet 32 = .ok (.aload_n 0, 1) := by decide +kernel
theorem dX3_meet_33 : decode cX3_meet 33 = .ok (.getfield 25, 3) := by decide +kernel
theorem dX3_meet_36 : decode cX3_meet 36 = .ok (.iload_n 1, 1) := by decide +kernel
theorem dX3_meet_37 : decode cX3_meet 37 = .ok (.iaload, 1) := by decide +kernel
theorem dX3_meet_38 : decode cX3_meet 38 = .ok (.if_icmp .ge 7, 3) := by decide +kernel
theorem dX3_meet_41 : decode cX3_meet 41 = .ok (.iload_n 2, 1) := by decide +kernel
theorem dX3_meet_42 : decode cX3_meet 42 = .ok (.goto 9, 3) := by decide +kernel
theorem dX3_meet_45 : decode cX3_meet 45 = .ok (.aload_n 0, 1) := by decide +kernel
theorem dX3_meet_46 : decode cX3_meet 46 = .ok (.getfield 25, 3) := by decide +kernel
theorem dX3_meet_49 : decode cX3_meet 49 = .ok (.iload_n 1, 1) := by decide +kernel
theorem dX3_meet_50 : decode cX3_meet 50 = .ok (.iaload, 1) := by decide +kernel
theorem dX3_meet_51 : decode cX3_meet 51 = .ok (.iastore, 1) := by decide +kernel
theorem dX3_meet_52 : decode cX3_meet 52 = .ok (.aload_n 0, 1) := by decide +kernel
theorem dX3_meet_53 : decode cX3_meet 53 = .ok (.getfield 28, 3) := by decide +kernel
theorem dX3_meet_56 : decode cX3_meet 56 = .ok (.iload_n 1, 1) := by decide +kernel
theorem dX3_meet_57 : decode cX3_meet 57 = .ok (.iload_n 2, 1) := by decide +kernel
theorem dX3_meet_58 : decode cX3_meet 58 = .ok (.iastore, 1) := by decide +kernel
theorem dX3_meet_59 : decode cX3_meet 59 = .ok (.return_, 1) := by decide +kernel
theorem dX3_border_0 : decode cX3_border 0 = .ok (.iload_n 1, 1) := by decide +kernel
theorem dX3_border_1 : decode cX3_border 1 = .ok (.ifCond .lt 36, 3) := by decide +kernel
theorem dX3_border_4 : decode cX3_border 4 = .ok (.aload_n 0, 1) := by decide +kernel
theorem dX3_border_5 : decode cX3_border 5 = .ok (.getfield 31, 3) := by decide +kernel
theorem dX3_border_8 : decode cX3_border 8 = .ok (.iload_n 1, 1) := by decide +kernel
theorem dX3_border_9 : decode cX3_border 9 = .ok (.iload_n 2, 1) := by decide +kernel
theorem dX3_border_10 : decode cX3_border 10 = .ok (.aload_n 0, 1) := by decide +kernel
theorem dX3_border_11 : decode cX3_border 11 = .ok (.getfield 31, 3) := by decide +kernel
theorem dX3_border_14 : decode cX3_border 14 = .ok (.iload_n 1, 1) := by decide +kernel
theorem dX3_border_15 : decode cX3_border 15 = .ok (.iaload, 1) := by decide +kernel
theorem dX3_border_16 : decode cX3_border 16 = .ok (.if_icmp .ge 7, 3) := by decide +kernel
theorem dX3_border_19 : decode cX3_border 19 = .ok (.iload_n 2, 1) := by decide +kernel
theorem dX3_border_20 : decode cX3_border 20 = .ok (.goto 9, 3) := by decide +kernel
theorem dX3_border_23 : decode cX3_border 23 = .ok (.aload_n 0, 1) := by decide +kernel
theorem dX3_border_24 : decode cX3_border 24 = .ok (.getfield 31, 3) := by decide +kernel
theorem dX3_border_27 : decode cX3_border 27 = .ok (.iload_n 1, 1) := by decide +kernel
theorem dX3_border_28 : decode cX3_border 28 = .ok (.iaload, 1) := by decide +kernel
theorem dX3_border_29 : decode cX3_border 29 = .ok (.iastore, 1) := by decide +kernel
theorem dX3_border_30 : decode cX3_border 30 = .ok (.aload_n 0, 1) := by decide +kernel
theorem dX3_border_31 : decode cX3_border 31 = .ok (.getfield 34, 3) := by decide +kernel
theorem dX3_border_34 : decode cX3_border 34 = .ok (.iload_n 1, 1) := by decide +kernel
theorem dX3_border_35 : decode cX3_border 35 = .ok (.iload_n 2, 1) := by decide +kernel
theorem dX3_border_36 : decode cX3_border 36 = .ok (.iastore, 1) := by decide +kernel
theorem dX3_border_37 : decode cX3_border 37 = .ok (.return_, 1) := by decide +kernel
theorem dX3_join_0 : decode cX3_join 0 = .ok (.aload_n 0, 1) := by decide +kernel
theorem dX3_join_1 : decode cX3_join 1 = .ok (.getfield 7, 3) := by decide +kernel
theorem dX3_join_4 : decode cX3_join 4 = .ok (.aload_n 0, 1) := by decide +kernel
theorem dX3_join_5 : decode cX3_join 5 = .ok (.getfield 93, 3) := by decide +kernel
theorem dX3_join_8 : decode cX3_join 8 = .ok (.iload_n 1, 1) := by decide +kernel
theorem dX3_join_9 : decode cX3_join 9 = .ok (.iastore, 1) := by decide +kernel
theorem dX3_join_10 : decode cX3_join 10 = .ok (.aload_n 0, 1) := by decide +kernel
theorem dX3_join_11 : decode cX3_join 11 = .ok (.getfield 13, 3) := by decide +kernel
theorem dX3_join_14 : decode cX3_join 14 = .ok (.aload_n 0, 1) := by decide +kernel
theorem dX3_join_15 : decode cX3_join 15 = .ok (.getfield 93, 3) := by decide +kernel
theorem dX3_join_18 : decode cX3_join 18 = .ok (.iload_n 2, 1) := by decide +kernel
theorem dX3_join_19 : decode cX3_join 19 = .ok (.iastore, 1) := by decide +kernel
theorem dX3_join_20 : decode cX3_join 20 = .ok (.aload_n 0, 1) := by decide +kernel
theorem dX3_join_21 : decode cX3_join 21 = .ok (.getfield 16, 3) := by decide +kernel
theorem dX3_join_24 : decode cX3_join 24 = .ok (.aload_n 0, 1) := by decide +kernel
theorem dX3_join_25 : decode cX3_join 25 = .ok (.getfield 93, 3) := by decide +kernel
theorem dX3_join_28 : decode cX3_join 28 = .ok (.iload_n 3, 1) := by decide +kernel
theorem dX3_join_29 : decode cX3_join 29 = .ok (.iastore, 1) := by decide +kernel
theorem dX3_join_30 : decode cX3_join 30 = .ok (.aload_n 0, 1) := by decide +kernel
theorem dX3_join_31 : decode cX3_join 31 = .ok (.getfield 19, 3) := by decide +kernel
theorem dX3_join_34 : decode cX3_join 34 = .ok (.aload_n 0, 1) := by decide +kernel
theorem dX3_join_35 : decode cX3_join 35 = .ok (.getfield 93, 3) := by decide +kernel
theorem dX3_join_38 : decode cX3_join 38 = .ok (.iload 4, 2) := by decide +kernel
theorem dX3_join_40 : decode cX3_join 40 = .ok (.iastore, 1) := by decide +kernel
theorem dX3_join_41 : decode cX3_join 41 = .ok (.aload_n 0, 1) := by decide +kernel
theorem dX3_join_42 : decode cX3_join 42 = .ok (.iload_n 1, 1) := by decide +kernel
theorem dX3_join_43 : decode cX3_join 43 = .ok (.aload_n 0, 1) := by decide +kernel
theorem dX3_join_44 : decode cX3_join 44 = .ok (.getfield 93, 3) := by decide +kernel
theorem dX3_join_47 : decode cX3_join 47 = .ok (.invokevirtual 96, 3) := by decide +kernel
theorem dX3_join_50 : decode cX3_join 50 = .ok (.aload_n 0, 1) := by decide +kernel
theorem dX3_join_51 : decode cX3_join 51 = .ok (.iload_n 2, 1) := by decide +kernel
theorem dX3_join_52 : decode cX3_join 52 = .ok (.aload_n 0, 1) := by decide +kernel
theorem dX3_join_53 : decode cX3_join 53 = .ok (.getfield 93, 3) := by decide +kernel
theorem dX3_join_56 : decode cX3_join 56 = .ok (.invokevirtual 96, 3) := by decide +kernel
theorem dX3_join_59 : decode cX3_join 59 = .ok (.aload_n 0, 1) := by decide +kernel
theorem dX3_join_60 : decode cX3_join 60 = .ok (.iload_n 3, 1) := by decide +kernel
theorem dX3_join_61 : decode cX3_join 61 = .ok (.aload_n 0, 1) := by decide +kernel
theorem dX3_join_62 : decode cX3_join 62 = .ok (.getfield 93, 3) := by decide +kernel
theorem dX3_join_65 : decode cX3_join 65 = .ok (.invokevirtual 100, 3) := by decide +kernel
theorem dX3_join_68 : decode cX3_join 68 = .ok (.aload_n 0, 1) := by decide +kernel
theorem dX3_join_69 : decode cX3_join 69 = .ok (.iload 4, 2) := by decide +kernel
theorem dX3_join_71 : decode cX3_join 71 = .ok (.aload_n 0, 1) := by decide +kernel
theorem dX3_join_72 : decode cX3_join 72 = .ok (.getfield 93, 3) := by decide +kernel
theorem dX3_join_75 : decode cX3_join 75 = .ok (.invokevirtual 100, 3) := by decide +kernel
theorem dX3_join_78 : decode cX3_join 78 = .ok (.aload_n 0, 1) := by decide +kernel
theorem dX3_join_79 : decode cX3_join 79 = .ok (.dup, 1) := by decide +kernel
theorem dX3_join_80 : decode cX3_join 80 = .ok (.getfield 93, 3) := by decide +kernel
theorem dX3_join_83 : decode cX3_join 83 = .ok (.iconst 1, 1) := by decide +kernel
theorem dX3_join_84 : decode cX3_join 84 = .ok (.iadd, 1) := by decide +kernel
theorem dX3_join_85 : decode cX3_join 85 = .ok (.putfield 93, 3) := by decide +kernel
theorem dX3_join_88 : decode cX3_join 88 = .ok (.return_, 1) := by decide +kernel
theorem dX3_thrown_0 : decode cX3_thrown 0 = .ok (.aload_n 0, 1) := by decide +kernel
theorem dX3_thrown_1 : decode cX3_thrown 1 = .ok (.getfield 103, 3) := by decide +kernel
theorem dX3_thrown_4 : decode cX3_thrown 4 = .ok (.ireturn, 1) := by decide +kernel
theorem dX3_fail_0 : decode cX3_fail 0 = .ok (.aload_n 0, 1) := by decide +kernel
theorem dX3_fail_1 : decode cX3_fail 1 = .ok (.iload_n 1, 1) := by decide +kernel
theorem dX3_fail_2 : decode cX3_fail 2 = .ok (.putfield 103, 3) := by decide +kernel
theorem dX3_fail_5 : decode cX3_fail 5 = .ok (.iconst 0, 1) := by decide +kernel
theorem dX3_fail_6 : decode cX3_fail 6 = .ok (.ireturn, 1) := by decide +kernel
theorem dX3_isIn_0 : decode cX3_isIn 0 = .ok (.iload_n 0, 1) := by decide +kernel
theorem dX3_isIn_1 : decode cX3_isIn 1 = .ok (.bipush 30, 2) := by decide +kernel
theorem dX3_isIn_3 : decode cX3_isIn 3 = .ok (.iload_n 1, 1) := by decide +kernel
theorem dX3_isIn_4 : decode cX3_isIn 4 = .ok (.isub, 1) := by decide +kernel
theorem dX3_isIn_5 : decode cX3_isIn 5 = .ok (.ishr, 1) := by decide +kernel
theorem dX3_isIn_6 : decode cX3_isIn 6 = .ok (.iconst 1, 1) := by decide +kernel
theorem dX3_isIn_7 : decode cX3_isIn 7 = .ok (.iand, 1) := by decide +kernel
theorem dX3_isIn_8 : decode cX3_isIn 8 = .ok (.iconst 1, 1) := by decide +kernel
theorem dX3_isIn_9 : decode cX3_isIn 9 = .ok (.if_icmp .ne 7, 3) := by decide +kernel
theorem dX3_isIn_12 : decode cX3_isIn 12 = .ok (.iconst 1, 1) := by decide +kernel
theorem dX3_isIn_13 : decode cX3_isIn 13 = .ok (.goto 4, 3) := by decide +kernel
theorem dX3_isIn_16 : decode cX3_isIn 16 = .ok (.iconst 0, 1) := by decide +kernel
theorem dX3_isIn_17 : decode cX3_isIn 17 = .ok (.ireturn, 1) := by decide +kernel
theorem dX3_bit_0 : decode cX3_bit 0 = .ok (.iconst 1, 1) := by decide +kernel
theorem dX3_bit_1 : decode cX3_bit 1 = .ok (.bipush 30, 2) := by decide +kernel
theorem dX3_bit_3 : decode cX3_bit 3 = .ok (.iload_n 0, 1) := by decide +kernel
theorem dX3_bit_4 : decode cX3_bit 4 = .ok (.isub, 1) := by decide +kernel
theorem dX3_bit_5 : decode cX3_bit 5 = .ok (.ishl, 1) := by decide +kernel
theorem dX3_bit_6 : decode cX3_bit 6 = .ok (.ireturn, 1) := by decide +kernel
theorem dX3_size_0 : decode cX3_size 0 = .ok (.iconst 0, 1) := by decide +kernel
theorem dX3_size_1 : decode cX3_size 1 = .ok (.istore_n 2, 1) := by decide +kernel
theorem dX3_size_2 : decode cX3_size 2 = .ok (.iconst 0, 1) := by decide +kernel
theorem dX3_size_3 : decode cX3_size 3 = .ok (.istore_n 3, 1) := by decide +kernel
theorem dX3_size_4 : decode cX3_size 4 = .ok (.iload_n 3, 1) := by decide +kernel
theorem dX3_size_5 : decode cX3_size 5 = .ok (.aload_n 0, 1) := by decide +kernel
theorem dX3_size_6 : decode cX3_size 6 = .ok (.getfield 93, 3) := by decide +kernel
theorem dX3_size_9 : decode cX3_size 9 = .ok (.if_icmp .ge 25, 3) := by decide +kernel
theorem dX3_size_12 : decode cX3_size 12 = .ok (.iload_n 1, 1) := by decide +kernel
theorem dX3_size_13 : decode cX3_size 13 = .ok (.iload_n 3, 1) := by decide +kernel
theorem dX3_size_14 : decode cX3_size 14 = .ok (.invokestatic 106, 3) := by decide +kernel
theorem dX3_size_17 : decode cX3_size 17 = .ok (.ifCond .eq 9, 3) := by decide +kernel
theorem dX3_size_20 : decode cX3_size 20 = .ok (.iload_n 2, 1) := by decide +kernel
theorem dX3_size_21 : decode cX3_size 21 = .ok (.iconst 1, 1) := by decide +kernel
theorem dX3_size_22 : decode cX3_size 22 = .ok (.iadd, 1) := by decide +kernel
theorem dX3_size_23 : decode cX3_size 23 = .ok (.goto 4, 3) := by decide +kernel
theorem dX3_size_26 : decode cX3_size 26 = .ok (.iload_n 2, 1) := by decide +kernel
theorem dX3_size_27 : decode cX3_size 27 = .ok (.istore_n 2, 1) := by decide +kernel
theorem dX3_size_28 : decode cX3_size 28 = .ok (.iinc 3 1, 3) := by decide +kernel
theorem dX3_size_31 : decode cX3_size 31 = .ok (.goto (-27), 3) := by decide +kernel
theorem dX3_size_34 : decode cX3_size 34 = .ok (.iload_n 2, 1) := by decide +kernel
theorem dX3_size_35 : decode cX3_size 35 = .ok (.ireturn, 1) := by decide +kernel
theorem dX3_measure_0 : decode cX3_measure 0 = .ok (.iconst 0, 1) := by decide +kernel
theorem dX3_measure_1 : decode cX3_measure 1 = .ok (.istore_n 2, 1) := by decide +kernel
theorem dX3_measure_2 : decode cX3_measure 2 = .ok (.iload_n 2, 1) := by decide +kernel
theorem dX3_measure_3 : decode cX3_measure 3 = .ok (.aload_n 0, 1) := by decide +kernel
theorem dX3_measure_4 : decode cX3_measure 4 = .ok (.getfield 79, 3) := by decide +kernel
theorem dX3_measure_7 : decode cX3_measure 7 = .ok (.if_icmp .ge 23, 3) := by decide +kernel
theorem dX3_measure_10 : decode cX3_measure 10 = .ok (.aload_n 0, 1) := by decide +kernel
theorem dX3_measure_11 : decode cX3_measure 11 = .ok (.getfield 65, 3) := by decide +kernel
theorem dX3_measure_14 : decode cX3_measure 14 = .ok (.iload_n 2, 1) := by decide +kernel
theorem dX3_measure_15 : decode cX3_measure 15 = .ok (.iconst 0, 1) := by decide +kernel
theorem dX3_measure_16 : decode cX3_measure 16 = .ok (.iastore, 1) := by decide +kernel
theorem dX3_measure_17 : decode cX3_measure 17 = .ok (.aload_n 0, 1) := by decide +kernel
theorem dX3_measure_18 : decode cX3_measure 18 = .ok (.getfield 68, 3) := by decide +kernel
theorem dX3_measure_21 : decode cX3_measure 21 = .ok (.iload_n 2, 1) := by decide +kernel
theorem dX3_measure_22 : decode cX3_measure 22 = .ok (.iconst 0, 1) := by decide +kernel
theorem dX3_measure_23 : decode cX3_measure 23 = .ok (.bastore, 1) := by decide +kernel
theorem dX3_measure_24 : decode cX3_measure 24 = .ok (.iinc 2 1, 3) := by decide +kernel
theorem dX3_measure_27 : decode cX3_measure 27 = .ok (.goto (-25), 3) := by decide +kernel
theorem dX3_measure_30 : decode cX3_measure 30 = .ok (.iconst 0, 1) := by decide +kernel
theorem dX3_measure_31 : decode cX3_measure 31 = .ok (.istore_n 2, 1) := by decide +kernel
theorem dX3_measure_32 : decode cX3_measure 32 = .ok (.iload_n 2, 1) := by decide +kernel
theorem dX3_measure_33 : decode cX3_measure 33 = .ok (.aload_n 0, 1) := by decide +kernel
theorem dX3_measure_34 : decode cX3_measure 34 = .ok (.getfield 93, 3) := by decide +kernel
theorem dX3_measure_37 : decode cX3_measure 37 = .ok (.if_icmp .ge 47, 3) := by decide +kernel
theorem dX3_measure_40 : decode cX3_measure 40 = .ok (.iload_n 1, 1) := by decide +kernel
theorem dX3_measure_41 : decode cX3_measure 41 = .ok (.iload_n 2, 1) := by decide +kernel
theorem dX3_measure_42 : decode cX3_measure 42 = .ok (.invokestatic 106, 3) := by decide +kernel
theorem dX3_measure_45 : decode cX3_measure 45 = .ok (.ifCond .eq 33, 3) := by decide +kernel
theorem dX3_measure_48 : decode cX3_measure 48 = .ok (.aload_n 0, 1) := by decide +kernel
theorem dX3_measure_49 : decode cX3_measure 49 = .ok (.getfield 65, 3) := by decide +kernel
theorem dX3_measure_52 : decode cX3_measure 52 = .ok (.aload_n 0, 1) := by decide +kernel
theorem dX3_measure_53 : decode cX3_measure 53 = .ok (.getfield 7, 3) := by decide +kernel
theorem dX3_measure_56 : decode cX3_measure 56 = .ok (.iload_n 2, 1) := by decide +kernel
theorem dX3_measure_57 : decode cX3_measure 57 = .ok (.iaload, 1) := by decide +kernel
theorem dX3_measure_58 : decode cX3_measure 58 = .ok (.dup2, 1) := by decide +kernel
theorem dX3_measure_59 : decode cX3_measure 59 = .ok (.iaload, 1) := by decide +kernel
theorem dX3_measure_60 : decode cX3_measure 60 = .ok (.iconst 1, 1) := by decide +kernel
theorem dX3_measure_61 : decode cX3_measure 61 = .ok (.iadd, 1) := by decide +kernel
theorem dX3_measure_62 : decode cX3_measure 62 = .ok (.iastore, 1) := by decide +kernel
theorem dX3_measure_63 : decode cX3_measure 63 = .ok (.aload_n 0, 1) := by decide +kernel
theorem dX3_measure_64 : decode cX3_measure 64 = .ok (.getfield 65, 3) := by decide +kernel
theorem dX3_measure_67 : decode cX3_measure 67 = .ok (.aload_n 0, 1) := by decide +kernel
theorem dX3_measure_68 : decode cX3_measure 68 = .ok (.getfield 13, 3) := by decide +kernel
theorem dX3_measure_71 : decode cX3_measure 71 = .ok (.iload_n 2, 1) := by decide +kernel
theorem dX3_measure_72 : decode cX3_measure 72 = .ok (.iaload, 1) := by decide +kernel
theorem dX3_measure_73 : decode cX3_measure 73 = .ok (.dup2, 1) := by decide +kernel
theorem dX3_measure_74 : decode cX3_measure 74 = .ok (.iaload, 1) := by decide +kernel
theorem dX3_measure_75 : decode cX3_measure 75 = .ok (.iconst 1, 1) := by decide +kernel
theorem dX3_measure_76 : decode cX3_measure 76 = .ok (.iadd, 1) := by decide +kernel
theorem dX3_measure_77 : decode cX3_measure 77 = .ok (.iastore, 1) := by decide +kernel
theorem dX3_measure_78 : decode cX3_measure 78 = .ok (.iinc 2 1, 3) := by decide +kernel
theorem dX3_measure_81 : decode cX3_measure 81 = .ok (.goto (-49), 3) := by decide +kernel
theorem dX3_measure_84 : decode cX3_measure 84 = .ok (.return_, 1) := by decide +kernel
theorem dX3_onward_0 : decode cX3_onward 0 = .ok (.iconst 4, 1) := by decide +kernel
theorem dX3_onward_1 : decode cX3_onward 1 = .ok (.iload_n 2, 1) := by decide +kernel
theorem dX3_onward_2 : decode cX3_onward 2 = .ok (.imul, 1) := by decide +kernel
theorem dX3_onward_3 : decode cX3_onward 3 = .ok (.istore 4, 2) := by decide +kernel
theorem dX3_onward_5 : decode cX3_onward 5 = .ok (.iload 4, 2) := by decide +kernel
theorem dX3_onward_7 : decode cX3_onward 7 = .ok (.iconst 4, 1) := by decide +kernel
theorem dX3_onward_8 : decode cX3_onward 8 = .ok (.iload_n 2, 1) := by decide +kernel
theorem dX3_onward_9 : decode cX3_onward 9 = .ok (.imul, 1) := by decide +kernel
theorem dX3_onward_10 : decode cX3_onward 10 = .ok (.iconst 4, 1) := by decide +kernel
theorem dX3_onward_11 : decode cX3_onward 11 = .ok (.iadd, 1) := by decide +kernel
theorem dX3_onward_12 : decode cX3_onward 12 = .ok (.if_icmp .ge 52, 3) := by decide +kernel
theorem dX3_onward_15 : decode cX3_onward 15 = .ok (.aload_n 0, 1) := by decide +kernel
theorem dX3_onward_16 : decode cX3_onward 16 = .ok (.getfield 22, 3) := by decide +kernel
theorem dX3_onward_19 : decode cX3_onward 19 = .ok (.iload 4, 2) := by decide +kernel
theorem dX3_onward_21 : decode cX3_onward 21 = .ok (.iaload, 1) := by decide +kernel
theorem dX3_onward_22 : decode cX3_onward 22 = .ok (.ifCond .lt 36, 3) := by decide +kernel
theorem dX3_onward_25 : decode cX3_onward 25 = .ok (.aload_n 0, 1) := by decide +kernel
theorem dX3_onward_26 : decode cX3_onward 26 = .ok (.getfield 22, 3) := by decide +kernel
theorem dX3_onward_29 : decode cX3_onward 29 = .ok (.iload 4, 2) := by decide +kernel
theorem dX3_onward_31 : decode cX3_onward 31 = .ok (.iaload, 1) := by decide +kernel
theorem dX3_onward_32 : decode cX3_onward 32 = .ok (.iload_n 3, 1) := by decide +kernel
theorem dX3_onward_33 : decode cX3_onward 33 = .ok (.if_icmp .eq 25, 3) := by decide +kernel
theorem dX3_onward_36 : decode cX3_onward 36 = .ok (.iload_n 1, 1) := by decide +kernel
theorem dX3_onward_37 : decode cX3_onward 37 = .ok (.aload_n 0, 1) := by decide +kernel
theorem dX3_onward_38 : decode cX3_onward 38 = .ok (.getfield 22, 3) := by decide +kernel
theorem dX3_onward_41 : decode cX3_onward 41 = .ok (.iload 4, 2) := by decide +kernel
theorem dX3_onward_43 : decode cX3_onward 43 = .ok (.iaload, 1) := by decide +kernel
theorem dX3_onward_44 : decode cX3_onward 44 = .ok (.invokestatic 106, 3) := by decide +kernel
theorem dX3_onward_47 : decode cX3_onward 47 = .ok (.ifCond .eq 11, 3) := by decide +kernel
theorem dX3_onward_50 : decode cX3_onward 50 = .ok (.aload_n 0, 1) := by decide +kernel
theorem dX3_onward_51 : decode cX3_onward 51 = .ok (.getfield 22, 3) := by decide +kernel
theorem dX3_onward_54 : decode cX3_onward 54 = .ok (.iload 4, 2) := by decide +kernel
theorem dX3_onward_56 : decode cX3_onward 56 = .ok (.iaload, 1) := by decide +kernel
theorem dX3_onward_57 : decode cX3_onward 57 = .ok (.ireturn, 1) := by decide +kernel
theorem dX3_onward_58 : decode cX3_onward 58 = .ok (.iinc 4 1, 3) := by decide +kernel
theorem dX3_onward_61 : decode cX3_onward 61 = .ok (.goto (-56), 3) := by decide +kernel
theorem dX3_onward_64 : decode cX3_onward 64 = .ok (.iconst (-1), 1) := by decide +kernel
theorem dX3_onward_65 : decode cX3_onward 65 = .ok (.ireturn, 1) := by decide +kernel
theorem dX3_walk_0 : decode cX3_walk 0 = .ok (.iload_n 2, 1) := by decide +kernel
theorem dX3_walk_1 : decode cX3_walk 1 = .ok (.istore_n 3, 1) := by decide +kernel
theorem dX3_walk_2 : decode cX3_walk 2 = .ok (.iconst (-1), 1) := by decide +kernel
theorem dX3_walk_3 : decode cX3_walk 3 = .ok (.istore 4, 2) := by decide +kernel
theorem dX3_walk_5 : decode cX3_walk 5 = .ok (.aload_n 0, 1) := by decide +kernel
theorem dX3_walk_6 : decode cX3_walk 6 = .ok (.getfield 68, 3) := by decide +kernel
theorem dX3_walk_9 : decode cX3_walk 9 = .ok (.iload_n 3, 1) := by decide +kernel
theorem dX3_walk_10 : decode cX3_walk 10 = .ok (.iconst 1, 1) := by decide +kernel
theorem dX3_walk_11 : decode cX3_walk 11 = .ok (.bastore, 1) := by decide +kernel
theorem dX3_walk_12 : decode cX3_walk 12 = .ok (.aload_n 0, 1) := by decide +kernel
theorem dX3_walk_13 : decode cX3_walk 13 = .ok (.iload_n 1, 1) := by decide +kernel
theorem dX3_walk_14 : decode cX3_walk 14 = .ok (.iload_n 3, 1) := by decide +kernel
theorem dX3_walk_15 : decode cX3_walk 15 = .ok (.iload 4, 2) := by decide +kernel
theorem dX3_walk_17 : decode cX3_walk 17 = .ok (.invokevirtual 110, 3) := by decide +kernel
theorem dX3_walk_20 : decode cX3_walk 20 = .ok (.istore 5, 2) := by decide +kernel
theorem dX3_walk_22 : decode cX3_walk 22 = .ok (.iload 5, 2) := by decide +kernel
theorem dX3_walk_24 : decode cX3_walk 24 = .ok (.ifCond .lt 67, 3) := by decide +kernel
theorem dX3_walk_27 : decode cX3_walk 27 = .ok (.aload_n 0, 1) := by decide +kernel
theorem dX3_walk_28 : decode cX3_walk 28 = .ok (.getfield 7, 3) := by decide +kernel
theorem dX3_walk_31 : decode cX3_walk 31 = .ok (.iload 5, 2) := by decide +kernel
theorem dX3_walk_33 : decode cX3_walk 33 = .ok (.iaload, 1) := by decide +kernel
theorem dX3_walk_34 : decode cX3_walk 34 = .ok (.iload_n 3, 1) := by decide +kernel
theorem dX3_walk_35 : decode cX3_walk 35 = .ok (.if_icmp .ne 13, 3) := by decide +kernel
theorem dX3_walk_38 : decode cX3_walk 38 = .ok (.aload_n 0, 1) := by decide +kernel
theorem dX3_walk_39 : decode cX3_walk 39 = .ok (.getfield 13, 3) := by decide +kernel
theorem dX3_walk_42 : decode cX3_walk 42 = .ok (.iload 5, 2) := by decide +kernel
theorem dX3_walk_44 : decode cX3_walk 44 = .ok (.iaload, 1) := by decide +kernel
theorem dX3_walk_45 : decode cX3_walk 45 = .ok (.goto 10, 3) := by decide +kernel
theorem dX3_walk_48 : decode cX3_walk 48 = .ok (.aload_n 0, 1) := by decide +kernel
theorem dX3_walk_49 : decode cX3_walk 49 = .ok (.getfield 7, 3) := by decide +kernel
theorem dX3_walk_52 : decode cX3_walk 52 = .ok (.iload 5, 2) := by decide +kernel
theorem dX3_walk_54 : decode cX3_walk 54 = .ok (.iaload, 1) := by decide +kernel
theorem dX3_walk_55 : decode cX3_walk 55 = .ok (.istore_n 3, 1) := by decide +kernel
theorem dX3_walk_56 : decode cX3_walk 56 = .ok (.iload 5, 2) := by decide +kernel
theorem dX3_walk_58 : decode cX3_walk 58 = .ok (.istore 4, 2) := by decide +kernel
theorem dX3_walk_60 : decode cX3_walk 60 = .ok (.aload_n 0, 1) := by decide +kernel
theorem dX3_walk_61 : decode cX3_walk 61 = .ok (.getfield 68, 3) := by decide +kernel
theorem dX3_walk_64 : decode cX3_walk 64 = .ok (.iload_n 3, 1) := by decide +kernel
theorem dX3_walk_65 : decode cX3_walk 65 = .ok (.baload, 1) := by decide +kernel
theorem dX3_walk_66 : decode cX3_walk 66 = .ok (.ifCond .eq 5, 3) := by decide +kernel
theorem dX3_walk_69 : decode cX3_walk 69 = .ok (.iload_n 3, 1) := by decide +kernel
theorem dX3_walk_70 : decode cX3_walk 70 = .ok (.ireturn, 1) := by decide +kernel
theorem dX3_walk_71 : decode cX3_walk 71 = .ok (.aload_n 0, 1) := by decide +kernel
theorem dX3_walk_72 : decode cX3_walk 72 = .ok (.getfield 68, 3) := by decide +kernel
theorem dX3_walk_75 : decode cX3_walk 75 = .ok (.iload_n 3, 1) := by decide +kernel
theorem dX3_walk_76 : decode cX3_walk 76 = .ok (.iconst 1, 1) := by decide +kernel
theorem dX3_walk_77 : decode cX3_walk 77 = .ok (.bastore, 1) := by decide +kernel
theorem dX3_walk_78 : decode cX3_walk 78 = .ok (.aload_n 0, 1) := by decide +kernel
theorem dX3_walk_79 : decode cX3_walk 79 = .ok (.iload_n 1, 1) := by decide +kernel
theorem dX3_walk_80 : decode cX3_walk 80 = .ok (.iload_n 3, 1) := by decide +kernel
theorem dX3_walk_81 : decode cX3_walk 81 = .ok (.iload 4, 2) := by decide +kernel
theorem dX3_walk_83 : decode cX3_walk 83 = .ok (.invokevirtual 110, 3) := by decide +kernel
theorem dX3_walk_86 : decode cX3_walk 86 = .ok (.istore 5, 2) := by decide +kernel
theorem dX3_walk_88 : decode cX3_walk 88 = .ok (.goto (-66), 3) := by decide +kernel
theorem dX3_walk_91 : decode cX3_walk 91 = .ok (.iload_n 3, 1) := by decide +kernel
theorem dX3_walk_92 : decode cX3_walk 92 = .ok (.ireturn, 1) := by decide +kernel
theorem dX3_isThin_0 : decode cX3_isThin 0 = .ok (.iconst 1, 1) := by decide +kernel
theorem dX3_isThin_1 : decode cX3_isThin 1 = .ok (.istore_n 1, 1) := by decide +kernel
theorem dX3_isThin_2 : decode cX3_isThin 2 = .ok (.iconst 0, 1) := by decide +kernel
theorem dX3_isThin_3 : decode cX3_isThin 3 = .ok (.istore_n 2, 1) := by decide +kernel
theorem dX3_isThin_4 : decode cX3_isThin 4 = .ok (.iload_n 2, 1) := by decide +kernel
theorem dX3_isThin_5 : decode cX3_isThin 5 = .ok (.aload_n 0, 1) := by decide +kernel
theorem dX3_isThin_6 : decode cX3_isThin 6 = .ok (.getfield 79, 3) := by decide +kernel
theorem dX3_isThin_9 : decode cX3_isThin 9 = .ok (.if_icmp .ge 29, 3) := by decide +kernel
theorem dX3_isThin_12 : decode cX3_isThin 12 = .ok (.iload_n 1, 1) := by decide +kernel
theorem dX3_isThin_13 : decode cX3_isThin 13 = .ok (.ifCond .eq 17, 3) := by decide +kernel
theorem dX3_isThin_16 : decode cX3_isThin 16 = .ok (.aload_n 0, 1) := by decide +kernel
theorem dX3_isThin_17 : decode cX3_isThin 17 = .ok (.getfield 65, 3) := by decide +kernel
theorem dX3_isThin_20 : decode cX3_isThin 20 = .ok (.iload_n 2, 1) := by decide +kernel
theorem dX3_isThin_21 : decode cX3_isThin 21 = .ok (.iaload, 1) := by decide +kernel
theorem dX3_isThin_22 : decode cX3_isThin 22 = .ok (.iconst 3, 1) := by decide +kernel
theorem dX3_isThin_23 : decode cX3_isThin 23 = .ok (.if_icmp .ge 7, 3) := by decide +kernel
theorem dX3_isThin_26 : decode cX3_isThin 26 = .ok (.iconst 1, 1) := by decide +kernel
theorem dX3_isThin_27 : decode cX3_isThin 27 = .ok (.goto 4, 3) := by decide +kernel
theorem dX3_isThin_30 : decode cX3_isThin 30 = .ok (.iconst 0, 1) := by decide +kernel
theorem dX3_isThin_31 : decode cX3_isThin 31 = .ok (.istore_n 1, 1) := by decide +kernel
theorem dX3_isThin_32 : decode cX3_isThin 32 = .ok (.iinc 2 1, 3) := by decide +kernel
theorem dX3_isThin_35 : decode cX3_isThin 35 = .ok (.goto (-31), 3) := by decide +kernel
theorem dX3_isThin_38 : decode cX3_isThin 38 = .ok (.iload_n 1, 1) := by decide +kernel
theorem dX3_isThin_39 : decode cX3_isThin 39 = .ok (.ireturn, 1) := by decide +kernel
theorem dX3_unseen_0 : decode cX3_unseen 0 = .ok (.iconst 0, 1) := by decide +kernel
theorem dX3_unseen_1 : decode cX3_unseen 1 = .ok (.istore_n 1, 1) := by decide +kernel
theorem dX3_unseen_2 : decode cX3_unseen 2 = .ok (.iload_n 1, 1) := by decide +kernel
theorem dX3_unseen_3 : decode cX3_unseen 3 = .ok (.aload_n 0, 1) := by decide +kernel
theorem dX3_unseen_4 : decode cX3_unseen 4 = .ok (.getfield 79, 3) := by decide +kernel
theorem dX3_unseen_7 : decode cX3_unseen 7 = .ok (.if_icmp .ge 29, 3) := by decide +kernel
theorem dX3_unseen_10 : decode cX3_unseen 10 = .ok (.aload_n 0, 1) := by decide +kernel
theorem dX3_unseen_11 : decode cX3_unseen 11 = .ok (.getfield 65, 3) := by decide +kernel
theorem dX3_unseen_14 : decode cX3_unseen 14 = .ok (.iload_n 1, 1) := by decide +kernel
theorem dX3_unseen_15 : decode cX3_unseen 15 = .ok (.iaload, 1) := by decide +kernel
theorem dX3_unseen_16 : decode cX3_unseen 16 = .ok (.ifCond .le 14, 3) := by decide +kernel
theorem dX3_unseen_19 : decode cX3_unseen 19 = .ok (.aload_n 0, 1) := by decide +kernel
theorem dX3_unseen_20 : decode cX3_unseen 20 = .ok (.getfield 68, 3) := by decide +kernel
theorem dX3_unseen_23 : decode cX3_unseen 23 = .ok (.iload_n 1, 1) := by decide +kernel
theorem dX3_unseen_24 : decode cX3_unseen 24 = .ok (.baload, 1) := by decide +kernel
theorem dX3_unseen_25 : decode cX3_unseen 25 = .ok (.ifCond .ne 5, 3) := by decide +kernel
theorem dX3_unseen_28 : decode cX3_unseen 28 = .ok (.iload_n 1, 1) := by decide +kernel
theorem dX3_unseen_29 : decode cX3_unseen 29 = .ok (.ireturn, 1) := by decide +kernel
theorem dX3_unseen_30 : decode cX3_unseen 30 = .ok (.iinc 1 1, 3) := by decide +kernel
theorem dX3_unseen_33 : decode cX3_unseen 33 = .ok (.goto (-31), 3) := by decide +kernel
theorem dX3_unseen_36 : decode cX3_unseen 36 = .ok (.iconst (-1), 1) := by decide +kernel
theorem dX3_unseen_37 : decode cX3_unseen 37 = .ok (.ireturn, 1) := by decide +kernel
theorem dX3_hasEnds_0 : decode cX3_hasEnds 0 = .ok (.iconst 0, 1) := by decide +kernel
theorem dX3_hasEnds_1 : decode cX3_hasEnds 1 = .ok (.istore_n 1, 1) := by decide +kernel
theorem dX3_hasEnds_2 : decode cX3_hasEnds 2 = .ok (.iconst 0, 1) := by decide +kernel
theorem dX3_hasEnds_3 : decode cX3_hasEnds 3 = .ok (.istore_n 2, 1) := by decide +kernel
theorem dX3_hasEnds_4 : decode cX3_hasEnds 4 = .ok (.iload_n 2, 1) := by decide +kernel
theorem dX3_hasEnds_5 : decode cX3_hasEnds 5 = .ok (.aload_n 0, 1) := by decide +kernel
theorem dX3_hasEnds_6 : decode cX3_hasEnds 6 = .ok (.getfield 79, 3) := by decide +kernel
theorem dX3_hasEnds_9 : decode cX3_hasEnds 9 = .ok (.if_icmp .ge 29, 3) := by decide +kernel
theorem dX3_hasEnds_12 : decode cX3_hasEnds 12 = .ok (.iload_n 1, 1) := by decide +kernel
theorem dX3_hasEnds_13 : decode cX3_hasEnds 13 = .ok (.ifCond .ne 13, 3) := by decide +kernel
theorem dX3_hasEnds_16 : decode cX3_hasEnds 16 = .ok (.aload_n 0, 1) := by decide +kernel
theorem dX3_hasEnds_17 : decode cX3_hasEnds 17 = .ok (.getfield 65, 3) := by decide +kernel
theorem dX3_hasEnds_20 : decode cX3_hasEnds 20 = .ok (.iload_n 2, 1) := by decide +kernel
theorem dX3_hasEnds_21 : decode cX3_hasEnds 21 = .ok (.iaload, 1) := by decide +kernel
theorem dX3_hasEnds_22 : decode cX3_hasEnds 22 = .ok (.iconst 1, 1) := by decide +kernel
theorem dX3_hasEnds_23 : decode cX3_hasEnds 23 = .ok (.if_icmp .ne 7, 3) := by decide +kernel
theorem dX3_hasEnds_26 : decode cX3_hasEnds 26 = .ok (.iconst 1, 1) := by decide +kernel
theorem dX3_hasEnds_27 : decode cX3_hasEnds 27 = .ok (.goto 4, 3) := by decide +kernel
theorem dX3_hasEnds_30 : decode cX3_hasEnds 30 = .ok (.iconst 0, 1) := by decide +kernel
theorem dX3_hasEnds_31 : decode cX3_hasEnds 31 = .ok (.istore_n 1, 1) := by decide +kernel
theorem dX3_hasEnds_32 : decode cX3_hasEnds 32 = .ok (.iinc 2 1, 3) := by decide +kernel
theorem dX3_hasEnds_35 : decode cX3_hasEnds 35 = .ok (.goto (-31), 3) := by decide +kernel
theorem dX3_hasEnds_38 : decode cX3_hasEnds 38 = .ok (.iload_n 1, 1) := by decide +kernel
theorem dX3_hasEnds_39 : decode cX3_hasEnds 39 = .ok (.ireturn, 1) := by decide +kernel
theorem dX3_isRing_0 : decode cX3_isRing 0 = .ok (.aload_n 0, 1) := by decide +kernel
theorem dX3_isRing_1 : decode cX3_isRing 1 = .ok (.invokevirtual 114, 3) := by decide +kernel
theorem dX3_isRing_4 : decode cX3_isRing 4 = .ok (.istore_n 2, 1) := by decide +kernel
theorem dX3_isRing_5 : decode cX3_isRing 5 = .ok (.iload_n 2, 1) := by decide +kernel
theorem dX3_isRing_6 : decode cX3_isRing 6 = .ok (.ifCond .lt 17, 3) := by decide +kernel
theorem dX3_isRing_9 : decode cX3_isRing 9 = .ok (.aload_n 0, 1) := by decide +kernel
theorem dX3_isRing_10 : decode cX3_isRing 10 = .ok (.invokevirtual 118, 3) := by decide +kernel
theorem dX3_isRing_13 : decode cX3_isRing 13 = .ok (.ifCond .eq 10, 3) := by decide +kernel
theorem dX3_isRing_16 : decode cX3_isRing 16 = .ok (.aload_n 0, 1) := by decide +kernel
theorem dX3_isRing_17 : decode cX3_isRing 17 = .ok (.invokevirtual 122, 3) := by decide +kernel
theorem dX3_isRing_20 : decode cX3_isRing 20 = .ok (.ifCond .eq 5, 3) := by decide +kernel
theorem dX3_isRing_23 : decode cX3_isRing 23 = .ok (.iconst 0, 1) := by decide +kernel
theorem dX3_isRing_24 : decode cX3_isRing 24 = .ok (.ireturn, 1) := by decide +kernel
theorem dX3_isRing_25 : decode cX3_isRing 25 = .ok (.aload_n 0, 1) := by decide +kernel
theorem dX3_isRing_26 : decode cX3_isRing 26 = .ok (.iload_n 1, 1) := by decide +kernel
theorem dX3_isRing_27 : decode cX3_isRing 27 = .ok (.iload_n 2, 1) := by decide +kernel
theorem dX3_isRing_28 : decode cX3_isRing 28 = .ok (.invokevirtual 125, 3) := by decide +kernel
theorem dX3_isRing_31 : decode cX3_isRing 31 = .ok (.pop, 1) := by decide +kernel
theorem dX3_isRing_32 : decode cX3_isRing 32 = .ok (.aload_n 0, 1) := by decide +kernel
theorem dX3_isRing_33 : decode cX3_isRing 33 = .ok (.invokevirtual 114, 3) := by decide +kernel
theorem dX3_isRing_36 : decode cX3_isRing 36 = .ok (.ifCond .ge 7, 3) := by decide +kernel
theorem dX3_isRing_39 : decode cX3_isRing 39 = .ok (.iconst 1, 1) := by decide +kernel
theorem dX3_isRing_40 : decode cX3_isRing 40 = .ok (.goto 4, 3) := by decide +kernel
theorem dX3_isRing_43 : decode cX3_isRing 43 = .ok (.iconst 0, 1) := by decide +kernel
theorem dX3_isRing_44 : decode cX3_isRing 44 = .ok (.ireturn, 1) := by decide +kernel
theorem dX3_isLoopSet_0 : decode cX3_isLoopSet 0 = .ok (.aload_n 0, 1) := by decide +kernel
theorem dX3_isLoopSet_1 : decode cX3_isLoopSet 1 = .ok (.iload_n 1, 1) := by decide +kernel
theorem dX3_isLoopSet_2 : decode cX3_isLoopSet 2 = .ok (.invokevirtual 128, 3) := by decide +kernel
theorem dX3_isLoopSet_5 : decode cX3_isLoopSet 5 = .ok (.aload_n 0, 1) := by decide +kernel
theorem dX3_isLoopSet_6 : decode cX3_isLoopSet 6 = .ok (.iload_n 1, 1) := by decide +kernel
theorem dX3_isLoopSet_7 : decode cX3_isLoopSet 7 = .ok (.invokevirtual 132, 3) := by decide +kernel
theorem dX3_isLoopSet_10 : decode cX3_isLoopSet 10 = .ok (.ireturn, 1) := by decide +kernel
theorem dX3_borderOf_0 : decode cX3_borderOf 0 = .ok (.iconst 0, 1) := by decide +kernel
theorem dX3_borderOf_1 : decode cX3_borderOf 1 = .ok (.istore_n 2, 1) := by decide +kernel
theorem dX3_borderOf_2 : decode cX3_borderOf 2 = .ok (.iconst 0, 1) := by decide +kernel
theorem dX3_borderOf_3 : decode cX3_borderOf 3 = .ok (.istore_n 3, 1) := by decide +kernel
theorem dX3_borderOf_4 : decode cX3_borderOf 4 = .ok (.iload_n 3, 1) := by decide +kernel
theorem dX3_borderOf_5 : decode cX3_borderOf 5 = .ok (.aload_n 0, 1) := by decide +kernel
theorem dX3_borderOf_6 : decode cX3_borderOf 6 = .ok (.getfield 93, 3) := by decide +kernel
theorem dX3_borderOf_9 : decode cX3_borderOf 9 = .ok (.if_icmp .ge 77, 3) := by decide +kernel
theorem dX3_borderOf_12 : decode cX3_borderOf 12 = .ok (.aload_n 0, 1) := by decide +kernel
theorem dX3_borderOf_13 : decode cX3_borderOf 13 = .ok (.getfield 16, 3) := by decide +kernel
theorem dX3_borderOf_16 : decode cX3_borderOf 16 = .ok (.iload_n 3, 1) := by decide +kernel
theorem dX3_borderOf_17 : decode cX3_borderOf 17 = .ok (.iaload, 1) := by decide +kernel
theorem dX3_borderOf_18 : decode cX3_borderOf 18 = .ok (.ifCond .ge 7, 3) := by decide +kernel
theorem dX3_borderOf_21 : decode cX3_borderOf 21 = .ok (.iconst 0, 1) := by decide +kernel
theorem dX3_borderOf_22 : decode cX3_borderOf 22 = .ok (.goto 13, 3) := by decide +kernel
theorem dX3_borderOf_25 : decode cX3_borderOf 25 = .ok (.iload_n 1, 1) := by decide +kernel
theorem dX3_borderOf_26 : decode cX3_borderOf 26 = .ok (.aload_n 0, 1) := by decide +kernel
theorem dX3_borderOf_27 : decode cX3_borderOf 27 = .ok (.getfield 16, 3) := by decide +kernel
theorem dX3_borderOf_30 : decode cX3_borderOf 30 = .ok (.iload_n 3, 1) := by decide +kernel
theorem dX3_borderOf_31 : decode cX3_borderOf 31 = .ok (.iaload, 1) := by decide +kernel
theorem dX3_borderOf_32 : decode cX3_borderOf 32 = .ok (.ishr, 1) := by decide +kernel
theorem dX3_borderOf_33 : decode cX3_borderOf 33 = .ok (.iconst 1, 1) := by decide +kernel
theorem dX3_borderOf_34 : decode cX3_borderOf 34 = .ok (.iand, 1) := by decide +kernel
theorem dX3_borderOf_35 : decode cX3_borderOf 35 = .ok (.istore 4, 2) := by decide +kernel
theorem dX3_borderOf_37 : decode cX3_borderOf 37 = .ok (.aload_n 0, 1) := by decide +kernel
theorem dX3_borderOf_38 : decode cX3_borderOf 38 = .ok (.getfield 19, 3) := by decide +kernel
theorem dX3_borderOf_41 : decode cX3_borderOf 41 = .ok (.iload_n 3, 1) := by decide +kernel
theorem dX3_borderOf_42 : decode cX3_borderOf 42 = .ok (.iaload, 1) := by decide +kernel
theorem dX3_borderOf_43 : decode cX3_borderOf 43 = .ok (.ifCond .ge 7, 3) := by decide +kernel
theorem dX3_borderOf_46 : decode cX3_borderOf 46 = .ok (.iconst 0, 1) := by decide +kernel
theorem dX3_borderOf_47 : decode cX3_borderOf 47 = .ok (.goto 13, 3) := by decide +kernel
theorem dX3_borderOf_50 : decode cX3_borderOf 50 = .ok (.iload_n 1, 1) := by decide +kernel
theorem dX3_borderOf_51 : decode cX3_borderOf 51 = .ok (.aload_n 0, 1) := by decide +kernel
theorem dX3_borderOf_52 : decode cX3_borderOf 52 = .ok (.getfield 19, 3) := by decide +kernel
theorem dX3_borderOf_55 : decode cX3_borderOf 55 = .ok (.iload_n 3, 1) := by decide +kernel
theorem dX3_borderOf_56 : decode cX3_borderOf 56 = .ok (.iaload, 1) := by decide +kernel
theorem dX3_borderOf_57 : decode cX3_borderOf 57 = .ok (.ishr, 1) := by decide +kernel
theorem dX3_borderOf_58 : decode cX3_borderOf 58 = .ok (.iconst 1, 1) := by decide +kernel
theorem dX3_borderOf_59 : decode cX3_borderOf 59 = .ok (.iand, 1) := by decide +kernel
theorem dX3_borderOf_60 : decode cX3_borderOf 60 = .ok (.istore 5, 2) := by decide +kernel
theorem dX3_borderOf_62 : decode cX3_borderOf 62 = .ok (.iload 4, 2) := by decide +kernel
theorem dX3_borderOf_64 : decode cX3_borderOf 64 = .ok (.iload 5, 2) := by decide +kernel
theorem dX3_borderOf_66 : decode cX3_borderOf 66 = .ok (.if_icmp .eq 12, 3) := by decide +kernel
theorem dX3_borderOf_69 : decode cX3_borderOf 69 = .ok (.iload_n 2, 1) := by decide +kernel
theorem dX3_borderOf_70 : decode cX3_borderOf 70 = .ok (.iload_n 3, 1) := by decide +kernel
theorem dX3_borderOf_71 : decode cX3_borderOf 71 = .ok (.invokestatic 136, 3) := by decide +kernel
theorem dX3_borderOf_74 : decode cX3_borderOf 74 = .ok (.ior, 1) := by decide +kernel
theorem dX3_borderOf_75 : decode cX3_borderOf 75 = .ok (.goto 4, 3) := by decide +kernel
theorem dX3_borderOf_78 : decode cX3_borderOf 78 = .ok (.iload_n 2, 1) := by decide +kernel
theorem dX3_borderOf_79 : decode cX3_borderOf 79 = .ok (.istore_n 2, 1) := by decide +kernel
theorem dX3_borderOf_80 : decode cX3_borderOf 80 = .ok (.iinc 3 1, 3) := by decide +kernel
theorem dX3_borderOf_83 : decode cX3_borderOf 83 = .ok (.goto (-79), 3) := by decide +kernel
theorem dX3_borderOf_86 : decode cX3_borderOf 86 = .ok (.iload_n 2, 1) := by decide +kernel
theorem dX3_borderOf_87 : decode cX3_borderOf 87 = .ok (.ireturn, 1) := by decide +kernel
theorem dX3_findLoops_0 : decode cX3_findLoops 0 = .ok (.iconst 1, 1) := by decide +kernel
theorem dX3_findLoops_1 : decode cX3_findLoops 1 = .ok (.aload_n 0, 1) := by decide +kernel
theorem dX3_findLoops_2 : decode cX3_findLoops 2 = .ok (.getfield 72, 3) := by decide +kernel
theorem dX3_findLoops_5 : decode cX3_findLoops 5 = .ok (.aload_n 0, 1) := by decide +kernel
theorem dX3_findLoops_6 : decode cX3_findLoops 6 = .ok (.getfield 76, 3) := by decide +kernel
theorem dX3_findLoops_9 : decode cX3_findLoops 9 = .ok (.imul, 1) := by decide +kernel
theorem dX3_findLoops_10 : decode cX3_findLoops 10 = .ok (.ishl, 1) := by decide +kernel
theorem dX3_findLoops_11 : decode cX3_findLoops 11 = .ok (.istore_n 1, 1) := by decide +kernel
theorem dX3_findLoops_12 : decode cX3_findLoops 12 = .ok (.iconst 1, 1) := by decide +kernel
theorem dX3_findLoops_13 : decode cX3_findLoops 13 = .ok (.istore_n 2, 1) := by decide +kernel
theorem dX3_findLoops_14 : decode cX3_findLoops 14 = .ok (.iload_n 2, 1) := by decide +kernel
theorem dX3_findLoops_15 : decode cX3_findLoops 15 = .ok (.iload_n 1, 1) := by decide +kernel
theorem dX3_findLoops_16 : decode cX3_findLoops 16 = .ok (.if_icmp .ge 87, 3) := by decide +kernel
theorem dX3_findLoops_19 : decode cX3_findLoops 19 = .ok (.aload_n 0, 1) := by decide +kernel
theorem dX3_findLoops_20 : decode cX3_findLoops 20 = .ok (.iload_n 2, 1) := by decide +kernel
theorem dX3_findLoops_21 : decode cX3_findLoops 21 = .ok (.invokevirtual 140, 3) := by decide +kernel
theorem dX3_findLoops_24 : decode cX3_findLoops 24 = .ok (.istore_n 3, 1) := by decide +kernel
theorem dX3_findLoops_25 : decode cX3_findLoops 25 = .ok (.aload_n 0, 1) := by decide +kernel
theorem dX3_findLoops_26 : decode cX3_findLoops 26 = .ok (.iload_n 3, 1) := by decide +kernel
theorem dX3_findLoops_27 : decode cX3_findLoops 27 = .ok (.invokevirtual 143, 3) := by decide +kernel
theorem dX3_findLoops_30 : decode cX3_findLoops 30 = .ok (.ifCond .eq 67, 3) := by decide +kernel
theorem dX3_findLoops_33 : decode cX3_findLoops 33 = .ok (.aload_n 0, 1) := by decide +kernel
theorem dX3_findLoops_34 : decode cX3_findLoops 34 = .ok (.getfield 146, 3) := by decide +kernel
theorem dX3_findLoops_37 : decode cX3_findLoops 37 = .ok (.istore 4, 2) := by decide +kernel
theorem dX3_findLoops_39 : decode cX3_findLoops 39 = .ok (.iload 4, 2) := by decide +kernel
theorem dX3_findLoops_41 : decode cX3_findLoops 41 = .ok (.ifCond .le 38, 3) := by decide +kernel
theorem dX3_findLoops_44 : decode cX3_findLoops 44 = .ok (.aload_n 0, 1) := by decide +kernel
theorem dX3_findLoops_45 : decode cX3_findLoops 45 = .ok (.getfield 37, 3) := by decide +kernel
theorem dX3_findLoops_48 : decode cX3_findLoops 48 = .ok (.iload 4, 2) := by decide +kernel
theorem dX3_findLoops_50 : decode cX3_findLoops 50 = .ok (.iconst 1, 1) := by decide +kernel
theorem dX3_findLoops_51 : decode cX3_findLoops 51 = .ok (.isub, 1) := by decide +kernel
theorem dX3_findLoops_52 : decode cX3_findLoops 52 = .ok (.iaload, 1) := by decide +kernel
theorem dX3_findLoops_53 : decode cX3_findLoops 53 = .ok (.iload_n 3, 1) := by decide +kernel
theorem dX3_findLoops_54 : decode cX3_findLoops 54 = .ok (.if_icmp .le 25, 3) := by decide +kernel
theorem dX3_findLoops_57 : decode cX3_findLoops 57 = .ok (.aload_n 0, 1) := by decide +kernel
theorem dX3_findLoops_58 : decode cX3_findLoops 58 = .ok (.getfield 37, 3) := by decide +kernel
theorem dX3_findLoops_61 : decode cX3_findLoops 61 = .ok (.iload 4, 2) := by decide +kernel
theorem dX3_findLoops_63 : decode cX3_findLoops 63 = .ok (.aload_n 0, 1) := by decide +kernel
theorem dX3_findLoops_64 : decode cX3_findLoops 64 = .ok (.getfield 37, 3) := by decide +kernel
theorem dX3_findLoops_67 : decode cX3_findLoops 67 = .ok (.iload 4, 2) := by decide +kernel
theorem dX3_findLoops_69 : decode cX3_findLoops 69 = .ok (.iconst 1, 1) := by decide +kernel
theorem dX3_findLoops_70 : decode cX3_findLoops 70 = .ok (.isub, 1) := by decide +kernel
theorem dX3_findLoops_71 : decode cX3_findLoops 71 = .ok (.iaload, 1) := by decide +kernel
theorem dX3_findLoops_72 : decode cX3_findLoops 72 = .ok (.iastore, 1) := by decide +kernel
theorem dX3_findLoops_73 : decode cX3_findLoops 73 = .ok (.iinc 4 (-1), 3) := by decide +kernel
theorem dX3_findLoops_76 : decode cX3_findLoops 76 = .ok (.goto (-37), 3) := by decide +kernel
theorem dX3_findLoops_79 : decode cX3_findLoops 79 = .ok (.aload_n 0, 1) := by decide +kernel
theorem dX3_findLoops_80 : decode cX3_findLoops 80 = .ok (.getfield 37, 3) := by decide +kernel
theorem dX3_findLoops_83 : decode cX3_findLoops 83 = .ok (.iload 4, 2) := by decide +kernel
theorem dX3_findLoops_85 : decode cX3_findLoops 85 = .ok (.iload_n 3, 1) := by decide +kernel
theorem dX3_findLoops_86 : decode cX3_findLoops 86 = .ok (.iastore, 1) := by decide +kernel
theorem dX3_findLoops_87 : decode cX3_findLoops 87 = .ok (.aload_n 0, 1) := by decide +kernel
theorem dX3_findLoops_88 : decode cX3_findLoops 88 = .ok (.dup, 1) := by decide +kernel
theorem dX3_findLoops_89 : decode cX3_findLoops 89 = .ok (.getfield 146, 3) := by decide +kernel
theorem dX3_findLoops_92 : decode cX3_findLoops 92 = .ok (.iconst 1, 1) := by decide +kernel
theorem dX3_findLoops_93 : decode cX3_findLoops 93 = .ok (.iadd, 1) := by decide +kernel
theorem dX3_findLoops_94 : decode cX3_findLoops 94 = .ok (.putfield 146, 3) := by decide +kernel
theorem dX3_findLoops_97 : decode cX3_findLoops 97 = .ok (.iinc 2 1, 3) := by decide +kernel
theorem dX3_findLoops_100 : decode cX3_findLoops 100 = .ok (.goto (-86), 3) := by decide +kernel
theorem dX3_findLoops_103 : decode cX3_findLoops 103 = .ok (.return_, 1) := by decide +kernel
theorem dX3_sides_0 : decode cX3_sides 0 = .ok (.iconst 0, 1) := by decide +kernel
theorem dX3_sides_1 : decode cX3_sides 1 = .ok (.istore_n 3, 1) := by decide +kernel
theorem dX3_sides_2 : decode cX3_sides 2 = .ok (.iconst 0, 1) := by decide +kernel
theorem dX3_sides_3 : decode cX3_sides 3 = .ok (.istore 4, 2) := by decide +kernel
theorem dX3_sides_5 : decode cX3_sides 5 = .ok (.iload 4, 2) := by decide +kernel
theorem dX3_sides_7 : decode cX3_sides 7 = .ok (.aload_n 0, 1) := by decide +kernel
theorem dX3_sides_8 : decode cX3_sides 8 = .ok (.getfield 93, 3) := by decide +kernel
theorem dX3_sides_11 : decode cX3_sides 11 = .ok (.if_icmp .ge 48, 3) := by decide +kernel
theorem dX3_sides_14 : decode cX3_sides 14 = .ok (.iload_n 1, 1) := by decide +kernel
theorem dX3_sides_15 : decode cX3_sides 15 = .ok (.iload 4, 2) := by decide +kernel
theorem dX3_sides_17 : decode cX3_sides 17 = .ok (.invokestatic 106, 3) := by decide +kernel
theorem dX3_sides_20 : decode cX3_sides 20 = .ok (.ifCond .eq 31, 3) := by decide +kernel
theorem dX3_sides_23 : decode cX3_sides 23 = .ok (.aload_n 0, 1) := by decide +kernel
theorem dX3_sides_24 : decode cX3_sides 24 = .ok (.getfield 16, 3) := by decide +kernel
theorem dX3_sides_27 : decode cX3_sides 27 = .ok (.iload 4, 2) := by decide +kernel
theorem dX3_sides_29 : decode cX3_sides 29 = .ok (.iaload, 1) := by decide +kernel
theorem dX3_sides_30 : decode cX3_sides 30 = .ok (.iload_n 2, 1) := by decide +kernel
theorem dX3_sides_31 : decode cX3_sides 31 = .ok (.if_icmp .eq 14, 3) := by decide +kernel
theorem dX3_sides_34 : decode cX3_sides 34 = .ok (.aload_n 0, 1) := by decide +kernel
theorem dX3_sides_35 : decode cX3_sides 35 = .ok (.getfield 19, 3) := by decide +kernel
theorem dX3_sides_38 : decode cX3_sides 38 = .ok (.iload 4, 2) := by decide +kernel
theorem dX3_sides_40 : decode cX3_sides 40 = .ok (.iaload, 1) := by decide +kernel
theorem dX3_sides_41 : decode cX3_sides 41 = .ok (.iload_n 2, 1) := by decide +kernel
theorem dX3_sides_42 : decode cX3_sides 42 = .ok (.if_icmp .ne 9, 3) := by decide +kernel
theorem dX3_sides_45 : decode cX3_sides 45 = .ok (.iload_n 3, 1) := by decide +kernel
theorem dX3_sides_46 : decode cX3_sides 46 = .ok (.iconst 1, 1) := by decide +kernel
theorem dX3_sides_47 : decode cX3_sides 47 = .ok (.iadd, 1) := by decide +kernel
theorem dX3_sides_48 : decode cX3_sides 48 = .ok (.goto 4, 3) := by decide +kernel
theorem dX3_sides_51 : decode cX3_sides 51 = .ok (.iload_n 3, 1) := by decide +kernel
theorem dX3_sides_52 : decode cX3_sides 52 = .ok (.istore_n 3, 1) := by decide +kernel
theorem dX3_sides_53 : decode cX3_sides 53 = .ok (.iinc 4 1, 3) := by decide +kernel
theorem dX3_sides_56 : decode cX3_sides 56 = .ok (.goto (-51), 3) := by decide +kernel
theorem dX3_sides_59 : decode cX3_sides 59 = .ok (.iload_n 3, 1) := by decide +kernel
theorem dX3_sides_60 : decode cX3_sides 60 = .ok (.ireturn, 1) := by decide +kernel
theorem dX3_keepsClues_0 : decode cX3_keepsClues 0 = .ok (.iconst 0, 1) := by decide +kernel
theorem dX3_keepsClues_1 : decode cX3_keepsClues 1 = .ok (.istore_n 2, 1) := by decide +kernel
theorem dX3_keepsClues_2 : decode cX3_keepsClues 2 = .ok (.iload_n 2, 1) := by decide +kernel
theorem dX3_keepsClues_3 : decode cX3_keepsClues 3 = .ok (.aload_n 0, 1) := by decide +kernel
theorem dX3_keepsClues_4 : decode cX3_keepsClues 4 = .ok (.getfield 72, 3) := by decide +kernel
theorem dX3_keepsClues_7 : decode cX3_keepsClues 7 = .ok (.aload_n 0, 1) := by decide +kernel
theorem dX3_keepsClues_8 : decode cX3_keepsClues 8 = .ok (.getfield 76, 3) := by decide +kernel
theorem dX3_keepsClues_11 : decode cX3_keepsClues 11 = .ok (.imul, 1) := by decide +kernel
theorem dX3_keepsClues_12 : decode cX3_keepsClues 12 = .ok (.if_icmp .ge 35, 3) := by decide +kernel
theorem dX3_keepsClues_15 : decode cX3_keepsClues 15 = .ok (.aload_n 0, 1) := by decide +kernel
theorem dX3_keepsClues_16 : decode cX3_keepsClues 16 = .ok (.getfield 40, 3) := by decide +kernel
theorem dX3_keepsClues_19 : decode cX3_keepsClues 19 = .ok (.iload_n 2, 1) := by decide +kernel
theorem dX3_keepsClues_20 : decode cX3_keepsClues 20 = .ok (.iaload, 1) := by decide +kernel
theorem dX3_keepsClues_21 : decode cX3_keepsClues 21 = .ok (.ifCond .lt 20, 3) := by decide +kernel
theorem dX3_keepsClues_24 : decode cX3_keepsClues 24 = .ok (.aload_n 0, 1) := by decide +kernel
theorem dX3_keepsClues_25 : decode cX3_keepsClues 25 = .ok (.iload_n 1, 1) := by decide +kernel
theorem dX3_keepsClues_26 : decode cX3_keepsClues 26 = .ok (.iload_n 2, 1) := by decide +kernel
theorem dX3_keepsClues_27 : decode cX3_keepsClues 27 = .ok (.invokevirtual 149, 3) := by decide +kernel
theorem dX3_keepsClues_30 : decode cX3_keepsClues 30 = .ok (.aload_n 0, 1) := by decide +kernel
theorem dX3_keepsClues_31 : decode cX3_keepsClues 31 = .ok (.getfield 40, 3) := by decide +kernel
theorem dX3_keepsClues_34 : decode cX3_keepsClues 34 = .ok (.iload_n 2, 1) := by decide +kernel
theorem dX3_keepsClues_35 : decode cX3_keepsClues 35 = .ok (.iaload, 1) := by decide +kernel
theorem dX3_keepsClues_36 : decode cX3_keepsClues 36 = .ok (.if_icmp .eq 5, 3) := by decide +kernel
theorem dX3_keepsClues_39 : decode cX3_keepsClues 39 = .ok (.iconst 0, 1) := by decide +kernel
theorem dX3_keepsClues_40 : decode cX3_keepsClues 40 = .ok (.ireturn, 1) := by decide +kernel
theorem dX3_keepsClues_41 : decode cX3_keepsClues 41 = .ok (.iinc 2 1, 3) := by decide +kernel
theorem dX3_keepsClues_44 : decode cX3_keepsClues 44 = .ok (.goto (-42), 3) := by decide +kernel
theorem dX3_keepsClues_47 : decode cX3_keepsClues 47 = .ok (.iconst 1, 1) := by decide +kernel
theorem dX3_keepsClues_48 : decode cX3_keepsClues 48 = .ok (.ireturn, 1) := by decide +kernel
theorem dX3_find_0 : decode cX3_find 0 = .ok (.aload_n 0, 1) := by decide +kernel
theorem dX3_find_1 : decode cX3_find 1 = .ok (.getfield 152, 3) := by decide +kernel
theorem dX3_find_4 : decode cX3_find 4 = .ok (.ifCond .eq 4, 3) := by decide +kernel
theorem dX3_find_7 : decode cX3_find 7 = .ok (.return_, 1) := by decide +kernel
theorem dX3_find_8 : decode cX3_find 8 = .ok (.aload_n 0, 1) := by decide +kernel
theorem dX3_find_9 : decode cX3_find 9 = .ok (.iconst 1, 1) := by decide +kernel
theorem dX3_find_10 : decode cX3_find 10 = .ok (.putfield 152, 3) := by decide +kernel
theorem dX3_find_13 : decode cX3_find 13 = .ok (.aload_n 0, 1) := by decide +kernel
theorem dX3_find_14 : decode cX3_find 14 = .ok (.iconst 0, 1) := by decide +kernel
theorem dX3_find_15 : decode cX3_find 15 = .ok (.putfield 156, 3) := by decide +kernel
theorem dX3_find_18 : decode cX3_find 18 = .ok (.aload_n 0, 1) := by decide +kernel
theorem dX3_find_19 : decode cX3_find 19 = .ok (.iconst 0, 1) := by decide +kernel
theorem dX3_find_20 : decode cX3_find 20 = .ok (.putfield 159, 3) := by decide +kernel
theorem dX3_find_23 : decode cX3_find 23 = .ok (.iconst 0, 1) := by decide +kernel
theorem dX3_find_24 : decode cX3_find 24 = .ok (.istore_n 1, 1) := by decide +kernel
theorem dX3_find_25 : decode cX3_find 25 = .ok (.iload_n 1, 1) := by decide +kernel
theorem dX3_find_26 : decode cX3_find 26 = .ok (.aload_n 0, 1) := by decide +kernel
theorem dX3_find_27 : decode cX3_find 27 = .ok (.getfield 146, 3) := by decide +kernel
theorem dX3_find_30 : decode cX3_find 30 = .ok (.if_icmp .ge 47, 3) := by decide +kernel
theorem dX3_find_33 : decode cX3_find 33 = .ok (.aload_n 0, 1) := by decide +kernel
theorem dX3_find_34 : decode cX3_find 34 = .ok (.aload_n 0, 1) := by decide +kernel
theorem dX3_find_35 : decode cX3_find 35 = .ok (.getfield 37, 3) := by decide +kernel
theorem dX3_find_38 : decode cX3_find 38 = .ok (.iload_n 1, 1) := by decide +kernel
theorem dX3_find_39 : decode cX3_find 39 = .ok (.iaload, 1) := by decide +kernel
theorem dX3_find_40 : decode cX3_find 40 = .ok (.invokevirtual 162, 3) := by decide +kernel
theorem dX3_find_43 : decode cX3_find 43 = .ok (.ifCond .eq 28, 3) := by decide +kernel
theorem dX3_find_46 : decode cX3_find 46 = .ok (.aload_n 0, 1) := by decide +kernel
theorem dX3_find_47 : decode cX3_find 47 = .ok (.getfield 43, 3) := by decide +kernel
theorem dX3_find_50 : decode cX3_find 50 = .ok (.aload_n 0, 1) := by decide +kernel
theorem dX3_find_51 : decode cX3_find 51 = .ok (.getfield 159, 3) := by decide +kernel
theorem dX3_find_54 : decode cX3_find 54 = .ok (.aload_n 0, 1) := by decide +kernel
theorem dX3_find_55 : decode cX3_find 55 = .ok (.getfield 37, 3) := by decide +kernel
theorem dX3_find_58 : decode cX3_find 58 = .ok (.iload_n 1, 1) := by decide +kernel
theorem dX3_find_59 : decode cX3_find 59 = .ok (.iaload, 1) := by decide +kernel
theorem dX3_find_60 : decode cX3_find 60 = .ok (.iastore, 1) := by decide +kernel
theorem dX3_find_61 : decode cX3_find 61 = .ok (.aload_n 0, 1) := by decide +kernel
theorem dX3_find_62 : decode cX3_find 62 = .ok (.dup, 1) := by decide +kernel
theorem dX3_find_63 : decode cX3_find 63 = .ok (.getfield 159, 3) := by decide +kernel
theorem dX3_find_66 : decode cX3_find 66 = .ok (.iconst 1, 1) := by decide +kernel
theorem dX3_find_67 : decode cX3_find 67 = .ok (.iadd, 1) := by decide +kernel
theorem dX3_find_68 : decode cX3_find 68 = .ok (.putfield 159, 3) := by decide +kernel
theorem dX3_find_71 : decode cX3_find 71 = .ok (.iinc 1 1, 3) := by decide +kernel
theorem dX3_find_74 : decode cX3_find 74 = .ok (.goto (-49), 3) := by decide +kernel
theorem dX3_find_77 : decode cX3_find 77 = .ok (.return_, 1) := by decide +kernel
theorem dX3_isCellAlive_0 : decode cX3_isCellAlive 0 = .ok (.aload_n 0, 1) := by decide +kernel
theorem dX3_isCellAlive_1 : decode cX3_isCellAlive 1 = .ok (.getfield 40, 3) := by decide +kernel
theorem dX3_isCellAlive_4 : decode cX3_isCellAlive 4 = .ok (.iload_n 2, 1) := by decide +kernel
theorem dX3_isCellAlive_5 : decode cX3_isCellAlive 5 = .ok (.iaload, 1) := by decide +kernel
theorem dX3_isCellAlive_6 : decode cX3_isCellAlive 6 = .ok (.ifCond .ge 7, 3) := by decide +kernel
theorem dX3_isCellAlive_9 : decode cX3_isCellAlive 9 = .ok (.iconst 0, 1) := by decide +kernel
theorem dX3_isCellAlive_10 : decode cX3_isCellAlive 10 = .ok (.goto 9, 3) := by decide +kernel
theorem dX3_isCellAlive_13 : decode cX3_isCellAlive 13 = .ok (.aload_n 0, 1) := by decide +kernel
theorem dX3_isCellAlive_14 : decode cX3_isCellAlive 14 = .ok (.iload_n 1, 1) := by decide +kernel
theorem dX3_isCellAlive_15 : decode cX3_isCellAlive 15 = .ok (.iload_n 2, 1) := by decide +kernel
theorem dX3_isCellAlive_16 : decode cX3_isCellAlive 16 = .ok (.invokevirtual 149, 3) := by decide +kernel
theorem dX3_isCellAlive_19 : decode cX3_isCellAlive 19 = .ok (.istore 4, 2) := by decide +kernel
theorem dX3_isCellAlive_21 : decode cX3_isCellAlive 21 = .ok (.aload_n 0, 1) := by decide +kernel
theorem dX3_isCellAlive_22 : decode cX3_isCellAlive 22 = .ok (.getfield 40, 3) := by decide +kernel
theorem dX3_isCellAlive_25 : decode cX3_isCellAlive 25 = .ok (.iload_n 2, 1) := by decide +kernel
theorem dX3_isCellAlive_26 : decode cX3_isCellAlive 26 = .ok (.iaload, 1) := by decide +kernel
theorem dX3_isCellAlive_27 : decode cX3_isCellAlive 27 = .ok (.ifCond .lt 35, 3) := by decide +kernel
theorem dX3_isCellAlive_30 : decode cX3_isCellAlive 30 = .ok (.iload 4, 2) := by decide +kernel
theorem dX3_isCellAlive_32 : decode cX3_isCellAlive 32 = .ok (.aload_n 0, 1) := by decide +kernel
theorem dX3_isCellAlive_33 : decode cX3_isCellAlive 33 = .ok (.getfield 40, 3) := by decide +kernel
theorem dX3_isCellAlive_36 : decode cX3_isCellAlive 36 = .ok (.iload_n 2, 1) := by decide +kernel
theorem dX3_isCellAlive_37 : decode cX3_isCellAlive 37 = .ok (.iaload, 1) := by decide +kernel
theorem dX3_isCellAlive_38 : decode cX3_isCellAlive 38 = .ok (.if_icmp .gt 28, 3) := by decide +kernel
theorem dX3_isCellAlive_41 : decode cX3_isCellAlive 41 = .ok (.aload_n 0, 1) := by decide +kernel
theorem dX3_isCellAlive_42 : decode cX3_isCellAlive 42 = .ok (.getfield 34, 3) := by decide +kernel
theorem dX3_isCellAlive_45 : decode cX3_isCellAlive 45 = .ok (.iload_n 2, 1) := by decide +kernel
theorem dX3_isCellAlive_46 : decode cX3_isCellAlive 46 = .ok (.iaload, 1) := by decide +kernel
theorem dX3_isCellAlive_47 : decode cX3_isCellAlive 47 = .ok (.iload_n 3, 1) := by decide +kernel
theorem dX3_isCellAlive_48 : decode cX3_isCellAlive 48 = .ok (.if_icmp .ge 14, 3) := by decide +kernel
theorem dX3_isCellAlive_51 : decode cX3_isCellAlive 51 = .ok (.iload 4, 2) := by decide +kernel
theorem dX3_isCellAlive_53 : decode cX3_isCellAlive 53 = .ok (.aload_n 0, 1) := by decide +kernel
theorem dX3_isCellAlive_54 : decode cX3_isCellAlive 54 = .ok (.getfield 40, 3) := by decide +kernel
theorem dX3_isCellAlive_57 : decode cX3_isCellAlive 57 = .ok (.iload_n 2, 1) := by decide +kernel
theorem dX3_isCellAlive_58 : decode cX3_isCellAlive 58 = .ok (.iaload, 1) := by decide +kernel
theorem dX3_isCellAlive_59 : decode cX3_isCellAlive 59 = .ok (.if_icmp .ne 7, 3) := by decide +kernel
theorem dX3_isCellAlive_62 : decode cX3_isCellAlive 62 = .ok (.iconst 1, 1) := by decide +kernel
theorem dX3_isCellAlive_63 : decode cX3_isCellAlive 63 = .ok (.goto 4, 3) := by decide +kernel
theorem dX3_isCellAlive_66 : decode cX3_isCellAlive 66 = .ok (.iconst 0, 1) := by decide +kernel
theorem dX3_isCellAlive_67 : decode cX3_isCellAlive 67 = .ok (.ireturn, 1) := by decide +kernel
theorem dX3_isAlive_0 : decode cX3_isAlive 0 = .ok (.aload_n 0, 1) := by decide +kernel
theorem dX3_isAlive_1 : decode cX3_isAlive 1 = .ok (.iload_n 1, 1) := by decide +kernel
theorem dX3_isAlive_2 : decode cX3_isAlive 2 = .ok (.invokevirtual 128, 3) := by decide +kernel
theorem dX3_isAlive_5 : decode cX3_isAlive 5 = .ok (.aload_n 0, 1) := by decide +kernel
theorem dX3_isAlive_6 : decode cX3_isAlive 6 = .ok (.invokevirtual 118, 3) := by decide +kernel
theorem dX3_isAlive_9 : decode cX3_isAlive 9 = .ok (.ifCond .eq 15, 3) := by decide +kernel
theorem dX3_isAlive_12 : decode cX3_isAlive 12 = .ok (.iload_n 2, 1) := by decide +kernel
theorem dX3_isAlive_13 : decode cX3_isAlive 13 = .ok (.aload_n 0, 1) := by decide +kernel
theorem dX3_isAlive_14 : decode cX3_isAlive 14 = .ok (.getfield 93, 3) := by decide +kernel
theorem dX3_isAlive_17 : decode cX3_isAlive 17 = .ok (.if_icmp .ne 9, 3) := by decide +kernel
theorem dX3_isAlive_20 : decode cX3_isAlive 20 = .ok (.iload_n 1, 1) := by decide +kernel
theorem dX3_isAlive_21 : decode cX3_isAlive 21 = .ok (.ifCond .ne 5, 3) := by decide +kernel
theorem dX3_isAlive_24 : decode cX3_isAlive 24 = .ok (.iconst 0, 1) := by decide +kernel
theorem dX3_isAlive_25 : decode cX3_isAlive 25 = .ok (.ireturn, 1) := by decide +kernel
theorem dX3_isAlive_26 : decode cX3_isAlive 26 = .ok (.iconst 1, 1) := by decide +kernel
theorem dX3_isAlive_27 : decode cX3_isAlive 27 = .ok (.istore_n 3, 1) := by decide +kernel
theorem dX3_isAlive_28 : decode cX3_isAlive 28 = .ok (.iconst 0, 1) := by decide +kernel
theorem dX3_isAlive_29 : decode cX3_isAlive 29 = .ok (.istore 4, 2) := by decide +kernel
theorem dX3_isAlive_31 : decode cX3_isAlive 31 = .ok (.iload 4, 2) := by decide +kernel
theorem dX3_isAlive_33 : decode cX3_isAlive 33 = .ok (.aload_n 0, 1) := by decide +kernel
theorem dX3_isAlive_34 : decode cX3_isAlive 34 = .ok (.getfield 79, 3) := by decide +kernel
theorem dX3_isAlive_37 : decode cX3_isAlive 37 = .ok (.if_icmp .ge 41, 3) := by decide +kernel
theorem dX3_isAlive_40 : decode cX3_isAlive 40 = .ok (.iload_n 3, 1) := by decide +kernel
theorem dX3_isAlive_41 : decode cX3_isAlive 41 = .ok (.ifCond .eq 29, 3) := by decide +kernel
theorem dX3_isAlive_44 : decode cX3_isAlive 44 = .ok (.aload_n 0, 1) := by decide +kernel
theorem dX3_isAlive_45 : decode cX3_isAlive 45 = .ok (.getfield 28, 3) := by decide +kernel
theorem dX3_isAlive_48 : decode cX3_isAlive 48 = .ok (.iload 4, 2) := by decide +kernel
theorem dX3_isAlive_50 : decode cX3_isAlive 50 = .ok (.iaload, 1) := by decide +kernel
theorem dX3_isAlive_51 : decode cX3_isAlive 51 = .ok (.iload_n 2, 1) := by decide +kernel
theorem dX3_isAlive_52 : decode cX3_isAlive 52 = .ok (.if_icmp .ge 14, 3) := by decide +kernel
theorem dX3_isAlive_55 : decode cX3_isAlive 55 = .ok (.aload_n 0, 1) := by decide +kernel
theorem dX3_isAlive_56 : decode cX3_isAlive 56 = .ok (.getfield 65, 3) := by decide +kernel
theorem dX3_isAlive_59 : decode cX3_isAlive 59 = .ok (.iload 4, 2) := by decide +kernel
theorem dX3_isAlive_61 : decode cX3_isAlive 61 = .ok (.iaload, 1) := by decide +kernel
theorem dX3_isAlive_62 : decode cX3_isAlive 62 = .ok (.iconst 1, 1) := by decide +kernel
theorem dX3_isAlive_63 : decode cX3_isAlive 63 = .ok (.if_icmp .eq 7, 3) := by decide +kernel
theorem dX3_isAlive_66 : decode cX3_isAlive 66 = .ok (.iconst 1, 1) := by decide +kernel
theorem dX3_isAlive_67 : decode cX3_isAlive 67 = .ok (.goto 4, 3) := by decide +kernel
theorem dX3_isAlive_70 : decode cX3_isAlive 70 = .ok (.iconst 0, 1) := by decide +kernel
theorem dX3_isAlive_71 : decode cX3_isAlive 71 = .ok (.istore_n 3, 1) := by decide +kernel
theorem dX3_isAlive_72 : decode cX3_isAlive 72 = .ok (.iinc 4 1, 3) := by decide +kernel
theorem dX3_isAlive_75 : decode cX3_isAlive 75 = .ok (.goto (-44), 3) := by decide +kernel
theorem dX3_isAlive_78 : decode cX3_isAlive 78 = .ok (.iconst 0, 1) := by decide +kernel
theorem dX3_isAlive_79 : decode cX3_isAlive 79 = .ok (.istore 4, 2) := by decide +kernel
theorem dX3_isAlive_81 : decode cX3_isAlive 81 = .ok (.iload 4, 2) := by decide +kernel
theorem dX3_isAlive_83 : decode cX3_isAlive 83 = .ok (.aload_n 0, 1) := by decide +kernel
theorem dX3_isAlive_84 : decode cX3_isAlive 84 = .ok (.getfield 72, 3) := by decide +kernel
theorem dX3_isAlive_87 : decode cX3_isAlive 87 = .ok (.aload_n 0, 1) := by decide +kernel
theorem dX3_isAlive_88 : decode cX3_isAlive 88 = .ok (.getfield 76, 3) := by decide +kernel
theorem dX3_isAlive_91 : decode cX3_isAlive 91 = .ok (.imul, 1) := by decide +kernel
theorem dX3_isAlive_92 : decode cX3_isAlive 92 = .ok (.if_icmp .ge 30, 3) := by decide +kernel
theorem dX3_isAlive_95 : decode cX3_isAlive 95 = .ok (.iload_n 3, 1) := by decide +kernel
theorem dX3_isAlive_96 : decode cX3_isAlive 96 = .ok (.ifCond .eq 18, 3) := by decide +kernel
theorem dX3_isAlive_99 : decode cX3_isAlive 99 = .ok (.aload_n 0, 1) := by decide +kernel
theorem dX3_isAlive_100 : decode cX3_isAlive 100 = .ok (.iload_n 1, 1) := by decide +kernel
theorem dX3_isAlive_101 : decode cX3_isAlive 101 = .ok (.iload 4, 2) := by decide +kernel
theorem dX3_isAlive_103 : decode cX3_isAlive 103 = .ok (.iload_n 2, 1) := by decide +kernel
theorem dX3_isAlive_104 : decode cX3_isAlive 104 = .ok (.invokevirtual 165, 3) := by decide +kernel
theorem dX3_isAlive_107 : decode cX3_isAlive 107 = .ok (.ifCond .eq 7, 3) := by decide +kernel
theorem dX3_isAlive_110 : decode cX3_isAlive 110 = .ok (.iconst 1, 1) := by decide +kernel
theorem dX3_isAlive_111 : decode cX3_isAlive 111 = .ok (.goto 4, 3) := by decide +kernel
theorem dX3_isAlive_114 : decode cX3_isAlive 114 = .ok (.iconst 0, 1) := by decide +kernel
theorem dX3_isAlive_115 : decode cX3_isAlive 115 = .ok (.istore_n 3, 1) := by decide +kernel
theorem dX3_isAlive_116 : decode cX3_isAlive 116 = .ok (.iinc 4 1, 3) := by decide +kernel
theorem dX3_isAlive_119 : decode cX3_isAlive 119 = .ok (.goto (-38), 3) := by decide +kernel
theorem dX3_isAlive_122 : decode cX3_isAlive 122 = .ok (.iload_n 3, 1) := by decide +kernel
theorem dX3_isAlive_123 : decode cX3_isAlive 123 = .ok (.ifCond .ne 5, 3) := by decide +kernel
theorem dX3_isAlive_126 : decode cX3_isAlive 126 = .ok (.iconst 0, 1) := by decide +kernel
theorem dX3_isAlive_127 : decode cX3_isAlive 127 = .ok (.ireturn, 1) := by decide +kernel
theorem dX3_isAlive_128 : decode cX3_isAlive 128 = .ok (.iconst 0, 1) := by decide +kernel
theorem dX3_isAlive_129 : decode cX3_isAlive 129 = .ok (.istore 4, 2) := by decide +kernel
theorem dX3_isAlive_131 : decode cX3_isAlive 131 = .ok (.iconst 0, 1) := by decide +kernel
theorem dX3_isAlive_132 : decode cX3_isAlive 132 = .ok (.istore 5, 2) := by decide +kernel
theorem dX3_isAlive_134 : decode cX3_isAlive 134 = .ok (.iload 5, 2) := by decide +kernel
theorem dX3_isAlive_136 : decode cX3_isAlive 136 = .ok (.aload_n 0, 1) := by decide +kernel
theorem dX3_isAlive_137 : decode cX3_isAlive 137 = .ok (.getfield 79, 3) := by decide +kernel
theorem dX3_isAlive_140 : decode cX3_isAlive 140 = .ok (.if_icmp .ge 41, 3) := by decide +kernel
theorem dX3_isAlive_143 : decode cX3_isAlive 143 = .ok (.aload_n 0, 1) := by decide +kernel
theorem dX3_isAlive_144 : decode cX3_isAlive 144 = .ok (.getfield 65, 3) := by decide +kernel
theorem dX3_isAlive_147 : decode cX3_isAlive 147 = .ok (.iload 5, 2) := by decide +kernel
theorem dX3_isAlive_149 : decode cX3_isAlive 149 = .ok (.iaload, 1) := by decide +kernel
theorem dX3_isAlive_150 : decode cX3_isAlive 150 = .ok (.iconst 1, 1) := by decide +kernel
theorem dX3_isAlive_151 : decode cX3_isAlive 151 = .ok (.if_icmp .ne 24, 3) := by decide +kernel
theorem dX3_isAlive_154 : decode cX3_isAlive 154 = .ok (.aload_n 0, 1) := by decide +kernel
theorem dX3_isAlive_155 : decode cX3_isAlive 155 = .ok (.getfield 68, 3) := by decide +kernel
theorem dX3_isAlive_158 : decode cX3_isAlive 158 = .ok (.iload 5, 2) := by decide +kernel
theorem dX3_isAlive_160 : decode cX3_isAlive 160 = .ok (.baload, 1) := by decide +kernel
theorem dX3_isAlive_161 : decode cX3_isAlive 161 = .ok (.ifCond .ne 14, 3) := by decide +kernel
theorem dX3_isAlive_164 : decode cX3_isAlive 164 = .ok (.aload_n 0, 1) := by decide +kernel
theorem dX3_isAlive_165 : decode cX3_isAlive 165 = .ok (.iload_n 1, 1) := by decide +kernel
theorem dX3_isAlive_166 : decode cX3_isAlive 166 = .ok (.iload 5, 2) := by decide +kernel
theorem dX3_isAlive_168 : decode cX3_isAlive 168 = .ok (.invokevirtual 125, 3) := by decide +kernel
theorem dX3_isAlive_171 : decode cX3_isAlive 171 = .ok (.pop, 1) := by decide +kernel
theorem dX3_isAlive_172 : decode cX3_isAlive 172 = .ok (.iconst 1, 1) := by decide +kernel
theorem dX3_isAlive_173 : decode cX3_isAlive 173 = .ok (.istore 4, 2) := by decide +kernel
theorem dX3_isAlive_175 : decode cX3_isAlive 175 = .ok (.iinc 5 1, 3) := by decide +kernel
theorem dX3_isAlive_178 : decode cX3_isAlive 178 = .ok (.goto (-44), 3) := by decide +kernel
theorem dX3_isAlive_181 : decode cX3_isAlive 181 = .ok (.aload_n 0, 1) := by decide +kernel
theorem dX3_isAlive_182 : decode cX3_isAlive 182 = .ok (.invokevirtual 114, 3) := by decide +kernel
theorem dX3_isAlive_185 : decode cX3_isAlive 185 = .ok (.istore 5, 2) := by decide +kernel
theorem dX3_isAlive_187 : decode cX3_isAlive 187 = .ok (.iload 5, 2) := by decide +kernel
theorem dX3_isAlive_189 : decode cX3_isAlive 189 = .ok (.ifCond .ge 5, 3) := by decide +kernel
theorem dX3_isAlive_192 : decode cX3_isAlive 192 = .ok (.iconst 1, 1) := by decide +kernel
theorem dX3_isAlive_193 : decode cX3_isAlive 193 = .ok (.ireturn, 1) := by decide +kernel
theorem dX3_isAlive_194 : decode cX3_isAlive 194 = .ok (.aload_n 0, 1) := by decide +kernel
theorem dX3_isAlive_195 : decode cX3_isAlive 195 = .ok (.iload_n 1, 1) := by decide +kernel
theorem dX3_isAlive_196 : decode cX3_isAlive 196 = .ok (.iload 5, 2) := by decide +kernel
theorem dX3_isAlive_198 : decode cX3_isAlive 198 = .ok (.invokevirtual 125, 3) := by decide +kernel
theorem dX3_isAlive_201 : decode cX3_isAlive 201 = .ok (.pop, 1) := by decide +kernel
theorem dX3_isAlive_202 : decode cX3_isAlive 202 = .ok (.iload 4, 2) := by decide +kernel
theorem dX3_isAlive_204 : decode cX3_isAlive 204 = .ok (.ifCond .ne 14, 3) := by decide +kernel
theorem dX3_isAlive_207 : decode cX3_isAlive 207 = .ok (.aload_n 0, 1) := by decide +kernel
theorem dX3_isAlive_208 : decode cX3_isAlive 208 = .ok (.invokevirtual 114, 3) := by decide +kernel
theorem dX3_isAlive_211 : decode cX3_isAlive 211 = .ok (.ifCond .ge 7, 3) := by decide +kernel
theorem dX3_isAlive_214 : decode cX3_isAlive 214 = .ok (.iconst 1, 1) := by decide +kernel
theorem dX3_isAlive_215 : decode cX3_isAlive 215 = .ok (.goto 4, 3) := by decide +kernel
theorem dX3_isAlive_218 : decode cX3_isAlive 218 = .ok (.iconst 0, 1) := by decide +kernel
theorem dX3_isAlive_219 : decode cX3_isAlive 219 = .ok (.ireturn, 1) := by decide +kernel
theorem dX3_trace_0 : decode cX3_trace 0 = .ok (.aload_n 0, 1) := by decide +kernel
theorem dX3_trace_1 : decode cX3_trace 1 = .ok (.iload_n 1, 1) := by decide +kernel
theorem dX3_trace_2 : decode cX3_trace 2 = .ok (.invokevirtual 143, 3) := by decide +kernel
theorem dX3_trace_5 : decode cX3_trace 5 = .ok (.ifCond .eq 7, 3) := by decide +kernel
theorem dX3_trace_8 : decode cX3_trace 8 = .ok (.lconst 1, 1) := by decide +kernel
theorem dX3_trace_9 : decode cX3_trace 9 = .ok (.goto 4, 3) := by decide +kernel
theorem dX3_trace_12 : decode cX3_trace 12 = .ok (.lconst 0, 1) := by decide +kernel
theorem dX3_trace_13 : decode cX3_trace 13 = .ok (.lstore_n 3, 1) := by decide +kernel
theorem dX3_trace_14 : decode cX3_trace 14 = .ok (.aload_n 0, 1) := by decide +kernel
theorem dX3_trace_15 : decode cX3_trace 15 = .ok (.iload_n 1, 1) := by decide +kernel
theorem dX3_trace_16 : decode cX3_trace 16 = .ok (.invokevirtual 128, 3) := by decide +kernel
theorem dX3_trace_19 : decode cX3_trace 19 = .ok (.iconst 0, 1) := by decide +kernel
theorem dX3_trace_20 : decode cX3_trace 20 = .ok (.istore 5, 2) := by decide +kernel
theorem dX3_trace_22 : decode cX3_trace 22 = .ok (.iload 5, 2) := by decide +kernel
theorem dX3_trace_24 : decode cX3_trace 24 = .ok (.aload_n 0, 1) := by decide +kernel
theorem dX3_trace_25 : decode cX3_trace 25 = .ok (.getfield 79, 3) := by decide +kernel
theorem dX3_trace_28 : decode cX3_trace 28 = .ok (.if_icmp .ge 105, 3) := by decide +kernel
theorem dX3_trace_31 : decode cX3_trace 31 = .ok (.aload_n 0, 1) := by decide +kernel
theorem dX3_trace_32 : decode cX3_trace 32 = .ok (.getfield 25, 3) := by decide +kernel
theorem dX3_trace_35 : decode cX3_trace 35 = .ok (.iload 5, 2) := by decide +kernel
theorem dX3_trace_37 : decode cX3_trace 37 = .ok (.iaload, 1) := by decide +kernel
theorem dX3_trace_38 : decode cX3_trace 38 = .ok (.iload_n 2, 1) := by decide +kernel
theorem dX3_trace_39 : decode cX3_trace 39 = .ok (.if_icmp .ge 88, 3) := by decide +kernel
theorem dX3_trace_42 : decode cX3_trace 42 = .ok (.aload_n 0, 1) := by decide +kernel
theorem dX3_trace_43 : decode cX3_trace 43 = .ok (.getfield 28, 3) := by decide +kernel
theorem dX3_trace_46 : decode cX3_trace 46 = .ok (.iload 5, 2) := by decide +kernel
theorem dX3_trace_48 : decode cX3_trace 48 = .ok (.iaload, 1) := by decide +kernel
theorem dX3_trace_49 : decode cX3_trace 49 = .ok (.iload_n 2, 1) := by decide +kernel
theorem dX3_trace_50 : decode cX3_trace 50 = .ok (.if_icmp .lt 77, 3) := by decide +kernel
theorem dX3_trace_53 : decode cX3_trace 53 = .ok (.iconst 0, 1) := by decide +kernel
theorem dX3_trace_54 : decode cX3_trace 54 = .ok (.istore 6, 2) := by decide +kernel
theorem dX3_trace_56 : decode cX3_trace 56 = .ok (.iload 6, 2) := by decide +kernel
theorem dX3_trace_58 : decode cX3_trace 58 = .ok (.aload_n 0, 1) := by decide +kernel
theorem dX3_trace_59 : decode cX3_trace 59 = .ok (.getfield 79, 3) := by decide +kernel
theorem dX3_trace_62 : decode cX3_trace 62 = .ok (.if_icmp .ge 17, 3) := by decide +kernel
theorem dX3_trace_65 : decode cX3_trace 65 = .ok (.aload_n 0, 1) := by decide +kernel
theorem dX3_trace_66 : decode cX3_trace 66 = .ok (.getfield 68, 3) := by decide +kernel
theorem dX3_trace_69 : decode cX3_trace 69 = .ok (.iload 6, 2) := by decide +kernel
theorem dX3_trace_71 : decode cX3_trace 71 = .ok (.iconst 0, 1) := by decide +kernel
theorem dX3_trace_72 : decode cX3_trace 72 = .ok (.bastore, 1) := by decide +kernel
theorem dX3_trace_73 : decode cX3_trace 73 = .ok (.iinc 6 1, 3) := by decide +kernel
theorem dX3_trace_76 : decode cX3_trace 76 = .ok (.goto (-20), 3) := by decide +kernel
theorem dX3_trace_79 : decode cX3_trace 79 = .ok (.aload_n 0, 1) := by decide +kernel
theorem dX3_trace_80 : decode cX3_trace 80 = .ok (.getfield 65, 3) := by decide +kernel
theorem dX3_trace_83 : decode cX3_trace 83 = .ok (.iload 5, 2) := by decide +kernel
theorem dX3_trace_85 : decode cX3_trace 85 = .ok (.iaload, 1) := by decide +kernel
theorem dX3_trace_86 : decode cX3_trace 86 = .ok (.ifCond .ne 7, 3) := by decide +kernel
theorem dX3_trace_89 : decode cX3_trace 89 = .ok (.iconst 0, 1) := by decide +kernel
theorem dX3_trace_90 : decode cX3_trace 90 = .ok (.goto 27, 3) := by decide +kernel
theorem dX3_trace_93 : decode cX3_trace 93 = .ok (.aload_n 0, 1) := by decide +kernel
theorem dX3_trace_94 : decode cX3_trace 94 = .ok (.getfield 65, 3) := by decide +kernel
theorem dX3_trace_97 : decode cX3_trace 97 = .ok (.iload 5, 2) := by decide +kernel
theorem dX3_trace_99 : decode cX3_trace 99 = .ok (.iaload, 1) := by decide +kernel
theorem dX3_trace_100 : decode cX3_trace 100 = .ok (.iconst 2, 1) := by decide +kernel
theorem dX3_trace_101 : decode cX3_trace 101 = .ok (.if_icmp .ne 7, 3) := by decide +kernel
theorem dX3_trace_104 : decode cX3_trace 104 = .ok (.iconst 1, 1) := by decide +kernel
theorem dX3_trace_105 : decode cX3_trace 105 = .ok (.goto 12, 3) := by decide +kernel
theorem dX3_trace_108 : decode cX3_trace 108 = .ok (.iconst 2, 1) := by decide +kernel
theorem dX3_trace_109 : decode cX3_trace 109 = .ok (.aload_n 0, 1) := by decide +kernel
theorem dX3_trace_110 : decode cX3_trace 110 = .ok (.iload_n 1, 1) := by decide +kernel
theorem dX3_trace_111 : decode cX3_trace 111 = .ok (.iload 5, 2) := by decide +kernel
theorem dX3_trace_113 : decode cX3_trace 113 = .ok (.invokevirtual 125, 3) := by decide +kernel
theorem dX3_trace_116 : decode cX3_trace 116 = .ok (.iadd, 1) := by decide +kernel
theorem dX3_trace_117 : decode cX3_trace 117 = .ok (.istore 6, 2) := by decide +kernel
theorem dX3_trace_119 : decode cX3_trace 119 = .ok (.lload_n 3, 1) := by decide +kernel
theorem dX3_trace_120 : decode cX3_trace 120 = .ok (.iconst 5, 1) := by decide +kernel
theorem dX3_trace_121 : decode cX3_trace 121 = .ok (.lshl, 1) := by decide +kernel
theorem dX3_trace_122 : decode cX3_trace 122 = .ok (.iload 6, 2) := by decide +kernel
theorem dX3_trace_124 : decode cX3_trace 124 = .ok (.i2l, 1) := by decide +kernel
theorem dX3_trace_125 : decode cX3_trace 125 = .ok (.lor, 1) := by decide +kernel
theorem dX3_trace_126 : decode cX3_trace 126 = .ok (.lstore_n 3, 1) := by decide +kernel
theorem dX3_trace_127 : decode cX3_trace 127 = .ok (.iinc 5 1, 3) := by decide +kernel
theorem dX3_trace_130 : decode cX3_trace 130 = .ok (.goto (-108), 3) := by decide +kernel
theorem dX3_trace_133 : decode cX3_trace 133 = .ok (.iconst 0, 1) := by decide +kernel
theorem dX3_trace_134 : decode cX3_trace 134 = .ok (.istore 5, 2) := by decide +kernel
theorem dX3_trace_136 : decode cX3_trace 136 = .ok (.iload 5, 2) := by decide +kernel
theorem dX3_trace_138 : decode cX3_trace 138 = .ok (.aload_n 0, 1) := by decide +kernel
theorem dX3_trace_139 : decode cX3_trace 139 = .ok (.getfield 72, 3) := by decide +kernel
theorem dX3_trace_142 : decode cX3_trace 142 = .ok (.aload_n 0, 1) := by decide +kernel
theorem dX3_trace_143 : decode cX3_trace 143 = .ok (.getfield 76, 3) := by decide +kernel
theorem dX3_trace_146 : decode cX3_trace 146 = .ok (.imul, 1) := by decide +kernel
theorem dX3_trace_147 : decode cX3_trace 147 = .ok (.if_icmp .ge 54, 3) := by decide +kernel
theorem dX3_trace_150 : decode cX3_trace 150 = .ok (.aload_n 0, 1) := by decide +kernel
theorem dX3_trace_151 : decode cX3_trace 151 = .ok (.getfield 40, 3) := by decide +kernel
theorem dX3_trace_154 : decode cX3_trace 154 = .ok (.iload 5, 2) := by decide +kernel
theorem dX3_trace_156 : decode cX3_trace 156 = .ok (.iaload, 1) := by decide +kernel
theorem dX3_trace_157 : decode cX3_trace 157 = .ok (.ifCond .lt 38, 3) := by decide +kernel
theorem dX3_trace_160 : decode cX3_trace 160 = .ok (.aload_n 0, 1) := by decide +kernel
theorem dX3_trace_161 : decode cX3_trace 161 = .ok (.getfield 31, 3) := by decide +kernel
theorem dX3_trace_164 : decode cX3_trace 164 = .ok (.iload 5, 2) := by decide +kernel
theorem dX3_trace_166 : decode cX3_trace 166 = .ok (.iaload, 1) := by decide +kernel
theorem dX3_trace_167 : decode cX3_trace 167 = .ok (.iload_n 2, 1) := by decide +kernel
theorem dX3_trace_168 : decode cX3_trace 168 = .ok (.if_icmp .ge 27, 3) := by decide +kernel
theorem dX3_trace_171 : decode cX3_trace 171 = .ok (.aload_n 0, 1) := by decide +kernel
theorem dX3_trace_172 : decode cX3_trace 172 = .ok (.getfield 34, 3) := by decide +kernel
theorem dX3_trace_175 : decode cX3_trace 175 = .ok (.iload 5, 2) := by decide +kernel
theorem dX3_trace_177 : decode cX3_trace 177 = .ok (.iaload, 1) := by decide +kernel
theorem dX3_trace_178 : decode cX3_trace 178 = .ok (.iload_n 2, 1) := by decide +kernel
theorem dX3_trace_179 : decode cX3_trace 179 = .ok (.if_icmp .lt 16, 3) := by decide +kernel
theorem dX3_trace_182 : decode cX3_trace 182 = .ok (.lload_n 3, 1) := by decide +kernel
theorem dX3_trace_183 : decode cX3_trace 183 = .ok (.iconst 3, 1) := by decide +kernel
theorem dX3_trace_184 : decode cX3_trace 184 = .ok (.lshl, 1) := by decide +kernel
theorem dX3_trace_185 : decode cX3_trace 185 = .ok (.aload_n 0, 1) := by decide +kernel
theorem dX3_trace_186 : decode cX3_trace 186 = .ok (.iload_n 1, 1) := by decide +kernel
theorem dX3_trace_187 : decode cX3_trace 187 = .ok (.iload 5, 2) := by decide +kernel
theorem dX3_trace_189 : decode cX3_trace 189 = .ok (.invokevirtual 149, 3) := by decide +kernel
theorem dX3_trace_192 : decode cX3_trace 192 = .ok (.i2l, 1) := by decide +kernel
theorem dX3_trace_193 : decode cX3_trace 193 = .ok (.lor, 1) := by decide +kernel
theorem dX3_trace_194 : decode cX3_trace 194 = .ok (.lstore_n 3, 1) := by decide +kernel
theorem dX3_trace_195 : decode cX3_trace 195 = .ok (.iinc 5 1, 3) := by decide +kernel
theorem dX3_trace_198 : decode cX3_trace 198 = .ok (.goto (-62), 3) := by decide +kernel
theorem dX3_trace_201 : decode cX3_trace 201 = .ok (.lload_n 3, 1) := by decide +kernel
theorem dX3_trace_202 : decode cX3_trace 202 = .ok (.lreturn, 1) := by decide +kernel
theorem dX3_offer_0 : decode cX3_offer 0 = .ok (.aload_n 0, 1) := by decide +kernel
theorem dX3_offer_1 : decode cX3_offer 1 = .ok (.iload_n 1, 1) := by decide +kernel
theorem dX3_offer_2 : decode cX3_offer 2 = .ok (.iload_n 2, 1) := by decide +kernel
theorem dX3_offer_3 : decode cX3_offer 3 = .ok (.invokevirtual 169, 3) := by decide +kernel
theorem dX3_offer_6 : decode cX3_offer 6 = .ok (.ifCond .ne 4, 3) := by decide +kernel
theorem dX3_offer_9 : decode cX3_offer 9 = .ok (.return_, 1) := by decide +kernel
theorem dX3_offer_10 : decode cX3_offer 10 = .ok (.aload_n 0, 1) := by decide +kernel
theorem dX3_offer_11 : decode cX3_offer 11 = .ok (.iload_n 1, 1) := by decide +kernel
theorem dX3_offer_12 : decode cX3_offer 12 = .ok (.iload_n 2, 1) := by decide +kernel
theorem dX3_offer_13 : decode cX3_offer 13 = .ok (.invokevirtual 172, 3) := by decide +kernel
theorem dX3_offer_16 : decode cX3_offer 16 = .ok (.lstore_n 3, 1) := by decide +kernel
theorem dX3_offer_17 : decode cX3_offer 17 = .ok (.lload_n 3, 1) := by decide +kernel
theorem dX3_offer_18 : decode cX3_offer 18 = .ok (.ldc2_w 176, 3) := by decide +kernel
theorem dX3_offer_21 : decode cX3_offer 21 = .ok (.lmul, 1) := by decide +kernel
theorem dX3_offer_22 : decode cX3_offer 22 = .ok (.bipush 52, 2) := by decide +kernel
theorem dX3_offer_24 : decode cX3_offer 24 = .ok (.lushr, 1) := by decide +kernel
theorem dX3_offer_25 : decode cX3_offer 25 = .ok (.l2i, 1) := by decide +kernel
theorem dX3_offer_26 : decode cX3_offer 26 = .ok (.istore 5, 2) := by decide +kernel
theorem dX3_offer_28 : decode cX3_offer 28 = .ok (.aload_n 0, 1) := by decide +kernel
theorem dX3_offer_29 : decode cX3_offer 29 = .ok (.getfield 62, 3) := by decide +kernel
theorem dX3_offer_32 : decode cX3_offer 32 = .ok (.iload 5, 2) := by decide +kernel
theorem dX3_offer_34 : decode cX3_offer 34 = .ok (.iaload, 1) := by decide +kernel
theorem dX3_offer_35 : decode cX3_offer 35 = .ok (.ifCond .le 35, 3) := by decide +kernel
theorem dX3_offer_38 : decode cX3_offer 38 = .ok (.aload_n 0, 1) := by decide +kernel
theorem dX3_offer_39 : decode cX3_offer 39 = .ok (.getfield 58, 3) := by decide +kernel
theorem dX3_offer_42 : decode cX3_offer 42 = .ok (.aload_n 0, 1) := by decide +kernel
theorem dX3_offer_43 : decode cX3_offer 43 = .ok (.getfield 62, 3) := by decide +kernel
theorem dX3_offer_46 : decode cX3_offer 46 = .ok (.iload 5, 2) := by decide +kernel
theorem dX3_offer_48 : decode cX3_offer 48 = .ok (.iaload, 1) := by decide +kernel
theorem dX3_offer_49 : decode cX3_offer 49 = .ok (.iconst 1, 1) := by decide +kernel
theorem dX3_offer_50 : decode cX3_offer 50 = .ok (.isub, 1) := by decide +kernel
theorem dX3_offer_51 : decode cX3_offer 51 = .ok (.laload, 1) := by decide +kernel
theorem dX3_offer_52 : decode cX3_offer 52 = .ok (.lload_n 3, 1) := by decide +kernel
theorem dX3_offer_53 : decode cX3_offer 53 = .ok (.lcmp, 1) := by decide +kernel
theorem dX3_offer_54 : decode cX3_offer 54 = .ok (.ifCond .eq 16, 3) := by decide +kernel
theorem dX3_offer_57 : decode cX3_offer 57 = .ok (.iload 5, 2) := by decide +kernel
theorem dX3_offer_59 : decode cX3_offer 59 = .ok (.iconst 1, 1) := by decide +kernel
theorem dX3_offer_60 : decode cX3_offer 60 = .ok (.iadd, 1) := by decide +kernel
theorem dX3_offer_61 : decode cX3_offer 61 = .ok (.sipush 4096, 3) := by decide +kernel
theorem dX3_offer_64 : decode cX3_offer 64 = .ok (.irem, 1) := by decide +kernel
theorem dX3_offer_65 : decode cX3_offer 65 = .ok (.istore 5, 2) := by decide +kernel
theorem dX3_offer_67 : decode cX3_offer 67 = .ok (.goto (-39), 3) := by decide +kernel
theorem dX3_offer_70 : decode cX3_offer 70 = .ok (.aload_n 0, 1) := by decide +kernel
theorem dX3_offer_71 : decode cX3_offer 71 = .ok (.getfield 62, 3) := by decide +kernel
theorem dX3_offer_74 : decode cX3_offer 74 = .ok (.iload 5, 2) := by decide +kernel
theorem dX3_offer_76 : decode cX3_offer 76 = .ok (.iaload, 1) := by decide +kernel
theorem dX3_offer_77 : decode cX3_offer 77 = .ok (.ifCond .ne 54, 3) := by decide +kernel
theorem dX3_offer_80 : decode cX3_offer 80 = .ok (.aload_n 0, 1) := by decide +kernel
theorem dX3_offer_81 : decode cX3_offer 81 = .ok (.getfield 178, 3) := by decide +kernel
theorem dX3_offer_84 : decode cX3_offer 84 = .ok (.sipush 2500, 3) := by decide +kernel
theorem dX3_offer_87 : decode cX3_offer 87 = .ok (.if_icmp .ge 44, 3) := by decide +kernel
theorem dX3_offer_90 : decode cX3_offer 90 = .ok (.aload_n 0, 1) := by decide +kernel
theorem dX3_offer_91 : decode cX3_offer 91 = .ok (.getfield 58, 3) := by decide +kernel
theorem dX3_offer_94 : decode cX3_offer 94 = .ok (.aload_n 0, 1) := by decide +kernel
theorem dX3_offer_95 : decode cX3_offer 95 = .ok (.getfield 178, 3) := by decide +kernel
theorem dX3_offer_98 : decode cX3_offer 98 = .ok (.lload_n 3, 1) := by decide +kernel
theorem dX3_offer_99 : decode cX3_offer 99 = .ok (.lastore, 1) := by decide +kernel
theorem dX3_offer_100 : decode cX3_offer 100 = .ok (.aload_n 0, 1) := by decide +kernel
theorem dX3_offer_101 : decode cX3_offer 101 = .ok (.getfield 55, 3) := by decide +kernel
theorem dX3_offer_104 : decode cX3_offer 104 = .ok (.aload_n 0, 1) := by decide +kernel
theorem dX3_offer_105 : decode cX3_offer 105 = .ok (.getfield 178, 3) := by decide +kernel
theorem dX3_offer_108 : decode cX3_offer 108 = .ok (.iload_n 1, 1) := by decide +kernel
theorem dX3_offer_109 : decode cX3_offer 109 = .ok (.iastore, 1) := by decide +kernel
theorem dX3_offer_110 : decode cX3_offer 110 = .ok (.aload_n 0, 1) := by decide +kernel
theorem dX3_offer_111 : decode cX3_offer 111 = .ok (.dup, 1) := by decide +kernel
theorem dX3_offer_112 : decode cX3_offer 112 = .ok (.getfield 178, 3) := by decide +kernel
theorem dX3_offer_115 : decode cX3_offer 115 = .ok (.iconst 1, 1) := by decide +kernel
theorem dX3_offer_116 : decode cX3_offer 116 = .ok (.iadd, 1) := by decide +kernel
theorem dX3_offer_117 : decode cX3_offer 117 = .ok (.putfield 178, 3) := by decide +kernel
theorem dX3_offer_120 : decode cX3_offer 120 = .ok (.aload_n 0, 1) := by decide +kernel
theorem dX3_offer_121 : decode cX3_offer 121 = .ok (.getfield 62, 3) := by decide +kernel
theorem dX3_offer_124 : decode cX3_offer 124 = .ok (.iload 5, 2) := by decide +kernel
theorem dX3_offer_126 : decode cX3_offer 126 = .ok (.aload_n 0, 1) := by decide +kernel
theorem dX3_offer_127 : decode cX3_offer 127 = .ok (.getfield 178, 3) := by decide +kernel
theorem dX3_offer_130 : decode cX3_offer 130 = .ok (.iastore, 1) := by decide +kernel
theorem dX3_offer_131 : decode cX3_offer 131 = .ok (.return_, 1) := by decide +kernel
theorem dX3_wipe_0 : decode cX3_wipe 0 = .ok (.aload_n 0, 1) := by decide +kernel
theorem dX3_wipe_1 : decode cX3_wipe 1 = .ok (.iconst 0, 1) := by decide +kernel
theorem dX3_wipe_2 : decode cX3_wipe 2 = .ok (.putfield 178, 3) := by decide +kernel
theorem dX3_wipe_5 : decode cX3_wipe 5 = .ok (.iconst 0, 1) := by decide +kernel
theorem dX3_wipe_6 : decode cX3_wipe 6 = .ok (.istore_n 1, 1) := by decide +kernel
theorem dX3_wipe_7 : decode cX3_wipe 7 = .ok (.iload_n 1, 1) := by decide +kernel
theorem dX3_wipe_8 : decode cX3_wipe 8 = .ok (.sipush 4096, 3) := by decide +kernel
theorem dX3_wipe_11 : decode cX3_wipe 11 = .ok (.if_icmp .ge 16, 3) := by decide +kernel
theorem dX3_wipe_14 : decode cX3_wipe 14 = .ok (.aload_n 0, 1) := by decide +kernel
theorem dX3_wipe_15 : decode cX3_wipe 15 = .ok (.getfield 62, 3) := by decide +kernel
theorem dX3_wipe_18 : decode cX3_wipe 18 = .ok (.iload_n 1, 1) := by decide +kernel
theorem dX3_wipe_19 : decode cX3_wipe 19 = .ok (.iconst 0, 1) := by decide +kernel
theorem dX3_wipe_20 : decode cX3_wipe 20 = .ok (.iastore, 1) := by decide +kernel
theorem dX3_wipe_21 : decode cX3_wipe 21 = .ok (.iinc 1 1, 3) := by decide +kernel
theorem dX3_wipe_24 : decode cX3_wipe 24 = .ok (.goto (-17), 3) := by decide +kernel
theorem dX3_wipe_27 : decode cX3_wipe 27 = .ok (.return_, 1) := by decide +kernel
theorem dX3_isUseful_0 : decode cX3_isUseful 0 = .ok (.iconst 0, 1) := by decide +kernel
theorem dX3_isUseful_1 : decode cX3_isUseful 1 = .ok (.istore_n 3, 1) := by decide +kernel
theorem dX3_isUseful_2 : decode cX3_isUseful 2 = .ok (.aload_n 0, 1) := by decide +kernel
theorem dX3_isUseful_3 : decode cX3_isUseful 3 = .ok (.getfield 159, 3) := by decide +kernel
theorem dX3_isUseful_6 : decode cX3_isUseful 6 = .ok (.istore 4, 2) := by decide +kernel
theorem dX3_isUseful_8 : decode cX3_isUseful 8 = .ok (.iload_n 3, 1) := by decide +kernel
theorem dX3_isUseful_9 : decode cX3_isUseful 9 = .ok (.iload 4, 2) := by decide +kernel
theorem dX3_isUseful_11 : decode cX3_isUseful 11 = .ok (.if_icmp .ge 47, 3) := by decide +kernel
theorem dX3_isUseful_14 : decode cX3_isUseful 14 = .ok (.iload_n 3, 1) := by decide +kernel
theorem dX3_isUseful_15 : decode cX3_isUseful 15 = .ok (.iload 4, 2) := by decide +kernel
theorem dX3_isUseful_17 : decode cX3_isUseful 17 = .ok (.iadd, 1) := by decide +kernel
theorem dX3_isUseful_18 : decode cX3_isUseful 18 = .ok (.iconst 2, 1) := by decide +kernel
theorem dX3_isUseful_19 : decode cX3_isUseful 19 = .ok (.idiv, 1) := by decide +kernel
theorem dX3_isUseful_20 : decode cX3_isUseful 20 = .ok (.istore 5, 2) := by decide +kernel
theorem dX3_isUseful_22 : decode cX3_isUseful 22 = .ok (.aload_n 0, 1) := by decide +kernel
theorem dX3_isUseful_23 : decode cX3_isUseful 23 = .ok (.getfield 43, 3) := by decide +kernel
theorem dX3_isUseful_26 : decode cX3_isUseful 26 = .ok (.iload 5, 2) := by decide +kernel
theorem dX3_isUseful_28 : decode cX3_isUseful 28 = .ok (.iaload, 1) := by decide +kernel
theorem dX3_isUseful_29 : decode cX3_isUseful 29 = .ok (.bipush 31, 2) := by decide +kernel
theorem dX3_isUseful_31 : decode cX3_isUseful 31 = .ok (.iload_n 2, 1) := by decide +kernel
theorem dX3_isUseful_32 : decode cX3_isUseful 32 = .ok (.isub, 1) := by decide +kernel
theorem dX3_isUseful_33 : decode cX3_isUseful 33 = .ok (.ishr, 1) := by decide +kernel
theorem dX3_isUseful_34 : decode cX3_isUseful 34 = .ok (.iload_n 1, 1) := by decide +kernel
theorem dX3_isUseful_35 : decode cX3_isUseful 35 = .ok (.bipush 31, 2) := by decide +kernel
theorem dX3_isUseful_37 : decode cX3_isUseful 37 = .ok (.iload_n 2, 1) := by decide +kernel
theorem dX3_isUseful_38 : decode cX3_isUseful 38 = .ok (.isub, 1) := by decide +kernel
theorem dX3_isUseful_39 : decode cX3_isUseful 39 = .ok (.ishr, 1) := by decide +kernel
theorem dX3_isUseful_40 : decode cX3_isUseful 40 = .ok (.if_icmp .ge 11, 3) := by decide +kernel
theorem dX3_isUseful_43 : decode cX3_isUseful 43 = .ok (.iload 5, 2) := by decide +kernel
theorem dX3_isUseful_45 : decode cX3_isUseful 45 = .ok (.iconst 1, 1) := by decide +kernel
theorem dX3_isUseful_46 : decode cX3_isUseful 46 = .ok (.iadd, 1) := by decide +kernel
theorem dX3_isUseful_47 : decode cX3_isUseful 47 = .ok (.istore_n 3, 1) := by decide +kernel
theorem dX3_isUseful_48 : decode cX3_isUseful 48 = .ok (.goto 7, 3) := by decide +kernel
theorem dX3_isUseful_51 : decode cX3_isUseful 51 = .ok (.iload 5, 2) := by decide +kernel
theorem dX3_isUseful_53 : decode cX3_isUseful 53 = .ok (.istore 4, 2) := by decide +kernel
theorem dX3_isUseful_55 : decode cX3_isUseful 55 = .ok (.goto (-47), 3) := by decide +kernel
theorem dX3_isUseful_58 : decode cX3_isUseful 58 = .ok (.iload_n 3, 1) := by decide +kernel
theorem dX3_isUseful_59 : decode cX3_isUseful 59 = .ok (.aload_n 0, 1) := by decide +kernel
theorem dX3_isUseful_60 : decode cX3_isUseful 60 = .ok (.getfield 159, 3) := by decide +kernel
theorem dX3_isUseful_63 : decode cX3_isUseful 63 = .ok (.if_icmp .ge 27, 3) := by decide +kernel
theorem dX3_isUseful_66 : decode cX3_isUseful 66 = .ok (.aload_n 0, 1) := by decide +kernel
theorem dX3_isUseful_67 : decode cX3_isUseful 67 = .ok (.getfield 43, 3) := by decide +kernel
theorem dX3_isUseful_70 : decode cX3_isUseful 70 = .ok (.iload_n 3, 1) := by decide +kernel
theorem dX3_isUseful_71 : decode cX3_isUseful 71 = .ok (.iaload, 1) := by decide +kernel
theorem dX3_isUseful_72 : decode cX3_isUseful 72 = .ok (.bipush 31, 2) := by decide +kernel
theorem dX3_isUseful_74 : decode cX3_isUseful 74 = .ok (.iload_n 2, 1) := by decide +kernel
theorem dX3_isUseful_75 : decode cX3_isUseful 75 = .ok (.isub, 1) := by decide +kernel
theorem dX3_isUseful_76 : decode cX3_isUseful 76 = .ok (.ishr, 1) := by decide +kernel
theorem dX3_isUseful_77 : decode cX3_isUseful 77 = .ok (.iload_n 1, 1) := by decide +kernel
theorem dX3_isUseful_78 : decode cX3_isUseful 78 = .ok (.bipush 31, 2) := by decide +kernel
theorem dX3_isUseful_80 : decode cX3_isUseful 80 = .ok (.iload_n 2, 1) := by decide +kernel
theorem dX3_isUseful_81 : decode cX3_isUseful 81 = .ok (.isub, 1) := by decide +kernel
theorem dX3_isUseful_82 : decode cX3_isUseful 82 = .ok (.ishr, 1) := by decide +kernel
theorem dX3_isUseful_83 : decode cX3_isUseful 83 = .ok (.if_icmp .ne 7, 3) := by decide +kernel
theorem dX3_isUseful_86 : decode cX3_isUseful 86 = .ok (.iconst 1, 1) := by decide +kernel
theorem dX3_isUseful_87 : decode cX3_isUseful 87 = .ok (.goto 4, 3) := by decide +kernel
theorem dX3_isUseful_90 : decode cX3_isUseful 90 = .ok (.iconst 0, 1) := by decide +kernel
theorem dX3_isUseful_91 : decode cX3_isUseful 91 = .ok (.ireturn, 1) := by decide +kernel
theorem dX3_measureLevels_0 : decode cX3_measureLevels 0 = .ok (.aload_n 0, 1) := by decide +kernel
theorem dX3_measureLevels_1 : decode cX3_measureLevels 1 = .ok (.invokevirtual 181, 3) := by decide +kernel
theorem dX3_measureLevels_4 : decode cX3_measureLevels 4 = .ok (.aload_n 0, 1) := by decide +kernel
theorem dX3_measureLevels_5 : decode cX3_measureLevels 5 = .ok (.getfield 156, 3) := by decide +kernel
theorem dX3_measureLevels_8 : decode cX3_measureLevels 8 = .ok (.ifCond .eq 4, 3) := by decide +kernel
theorem dX3_measureLevels_11 : decode cX3_measureLevels 11 = .ok (.return_, 1) := by decide +kernel
theorem dX3_measureLevels_12 : decode cX3_measureLevels 12 = .ok (.aload_n 0, 1) := by decide +kernel
theorem dX3_measureLevels_13 : decode cX3_measureLevels 13 = .ok (.iconst 1, 1) := by decide +kernel
theorem dX3_measureLevels_14 : decode cX3_measureLevels 14 = .ok (.putfield 156, 3) := by decide +kernel
theorem dX3_measureLevels_17 : decode cX3_measureLevels 17 = .ok (.aload_n 0, 1) := by decide +kernel
theorem dX3_measureLevels_18 : decode cX3_measureLevels 18 = .ok (.iconst 1, 1) := by decide +kernel
theorem dX3_measureLevels_19 : decode cX3_measureLevels 19 = .ok (.putfield 184, 3) := by decide +kernel
theorem dX3_measureLevels_22 : decode cX3_measureLevels 22 = .ok (.aload_n 0, 1) := by decide +kernel
theorem dX3_measureLevels_23 : decode cX3_measureLevels 23 = .ok (.getfield 52, 3) := by decide +kernel
theorem dX3_measureLevels_26 : decode cX3_measureLevels 26 = .ok (.iconst 0, 1) := by decide +kernel
theorem dX3_measureLevels_27 : decode cX3_measureLevels 27 = .ok (.iconst 0, 1) := by decide +kernel
theorem dX3_measureLevels_28 : decode cX3_measureLevels 28 = .ok (.iastore, 1) := by decide +kernel
theorem dX3_measureLevels_29 : decode cX3_measureLevels 29 = .ok (.iconst 0, 1) := by decide +kernel
theorem dX3_measureLevels_30 : decode cX3_measureLevels 30 = .ok (.istore_n 1, 1) := by decide +kernel
theorem dX3_measureLevels_31 : decode cX3_measureLevels 31 = .ok (.iload_n 1, 1) := by decide +kernel
theorem dX3_measureLevels_32 : decode cX3_measureLevels 32 = .ok (.aload_n 0, 1) := by decide +kernel
theorem dX3_measureLevels_33 : decode cX3_measureLevels 33 = .ok (.getfield 93, 3) := by decide +kernel
theorem dX3_measureLevels_36 : decode cX3_measureLevels 36 = .ok (.if_icmp .gt 158, 3) := by decide +kernel
theorem dX3_measureLevels_39 : decode cX3_measureLevels 39 = .ok (.aload_n 0, 1) := by decide +kernel
theorem dX3_measureLevels_40 : decode cX3_measureLevels 40 = .ok (.getfield 46, 3) := by decide +kernel
theorem dX3_measureLevels_43 : decode cX3_measureLevels 43 = .ok (.iload_n 1, 1) := by decide +kernel
theorem dX3_measureLevels_44 : decode cX3_measureLevels 44 = .ok (.aload_n 0, 1) := by decide +kernel
theorem dX3_measureLevels_45 : decode cX3_measureLevels 45 = .ok (.getfield 184, 3) := by decide +kernel
theorem dX3_measureLevels_48 : decode cX3_measureLevels 48 = .ok (.iastore, 1) := by decide +kernel
theorem dX3_measureLevels_49 : decode cX3_measureLevels 49 = .ok (.aload_n 0, 1) := by decide +kernel
theorem dX3_measureLevels_50 : decode cX3_measureLevels 50 = .ok (.getfield 49, 3) := by decide +kernel
theorem dX3_measureLevels_53 : decode cX3_measureLevels 53 = .ok (.iload_n 1, 1) := by decide +kernel
theorem dX3_measureLevels_54 : decode cX3_measureLevels 54 = .ok (.iconst 0, 1) := by decide +kernel
theorem dX3_measureLevels_55 : decode cX3_measureLevels 55 = .ok (.iastore, 1) := by decide +kernel
theorem dX3_measureLevels_56 : decode cX3_measureLevels 56 = .ok (.aload_n 0, 1) := by decide +kernel
theorem dX3_measureLevels_57 : decode cX3_measureLevels 57 = .ok (.invokevirtual 187, 3) := by decide +kernel
theorem dX3_measureLevels_60 : decode cX3_measureLevels 60 = .ok (.iconst 0, 1) := by decide +kernel
theorem dX3_measureLevels_61 : decode cX3_measureLevels 61 = .ok (.istore_n 2, 1) := by decide +kernel
theorem dX3_measureLevels_62 : decode cX3_measureLevels 62 = .ok (.iload_n 2, 1) := by decide +kernel
theorem dX3_measureLevels_63 : decode cX3_measureLevels 63 = .ok (.aload_n 0, 1) := by decide +kernel
theorem dX3_measureLevels_64 : decode cX3_measureLevels 64 = .ok (.getfield 184, 3) := by decide +kernel
theorem dX3_measureLevels_67 : decode cX3_measureLevels 67 = .ok (.if_icmp .ge 85, 3) := by decide +kernel
theorem dX3_measureLevels_70 : decode cX3_measureLevels 70 = .ok (.aload_n 0, 1) := by decide +kernel
theorem dX3_measureLevels_71 : decode cX3_measureLevels 71 = .ok (.getfield 49, 3) := by decide +kernel
theorem dX3_measureLevels_74 : decode cX3_measureLevels 74 = .ok (.iload_n 1, 1) := by decide +kernel
theorem dX3_measureLevels_75 : decode cX3_measureLevels 75 = .ok (.aload_n 0, 1) := by decide +kernel
theorem dX3_measureLevels_76 : decode cX3_measureLevels 76 = .ok (.aload_n 0, 1) := by decide +kernel
theorem dX3_measureLevels_77 : decode cX3_measureLevels 77 = .ok (.getfield 52, 3) := by decide +kernel
theorem dX3_measureLevels_80 : decode cX3_measureLevels 80 = .ok (.iload_n 2, 1) := by decide +kernel
theorem dX3_measureLevels_81 : decode cX3_measureLevels 81 = .ok (.iaload, 1) := by decide +kernel
theorem dX3_measureLevels_82 : decode cX3_measureLevels 82 = .ok (.iload_n 1, 1) := by decide +kernel
theorem dX3_measureLevels_83 : decode cX3_measureLevels 83 = .ok (.invokevirtual 190, 3) := by decide +kernel
theorem dX3_measureLevels_86 : decode cX3_measureLevels 86 = .ok (.ifCond .eq 14, 3) := by decide +kernel
theorem dX3_measureLevels_89 : decode cX3_measureLevels 89 = .ok (.aload_n 0, 1) := by decide +kernel
theorem dX3_measureLevels_90 : decode cX3_measureLevels 90 = .ok (.getfield 49, 3) := by decide +kernel
theorem dX3_measureLevels_93 : decode cX3_measureLevels 93 = .ok (.iload_n 1, 1) := by decide +kernel
theorem dX3_measureLevels_94 : decode cX3_measureLevels 94 = .ok (.iaload, 1) := by decide +kernel
theorem dX3_measureLevels_95 : decode cX3_measureLevels 95 = .ok (.iconst 1, 1) := by decide +kernel
theorem dX3_measureLevels_96 : decode cX3_measureLevels 96 = .ok (.iadd, 1) := by decide +kernel
theorem dX3_measureLevels_97 : decode cX3_measureLevels 97 = .ok (.goto 9, 3) := by decide +kernel
theorem dX3_measureLevels_100 : decode cX3_measureLevels 100 = .ok (.aload_n 0, 1) := by decide +kernel
theorem dX3_measureLevels_101 : decode cX3_measureLevels 101 = .ok (.getfield 49, 3) := by decide +kernel
theorem dX3_measureLevels_104 : decode cX3_measureLevels 104 = .ok (.iload_n 1, 1) := by decide +kernel
theorem dX3_measureLevels_105 : decode cX3_measureLevels 105 = .ok (.iaload, 1) := by decide +kernel
theorem dX3_measureLevels_106 : decode cX3_measureLevels 106 = .ok (.iastore, 1) := by decide +kernel
theorem dX3_measureLevels_107 : decode cX3_measureLevels 107 = .ok (.iload_n 1, 1) := by decide +kernel
theorem dX3_measureLevels_108 : decode cX3_measureLevels 108 = .ok (.aload_n 0, 1) := by decide +kernel
theorem dX3_measureLevels_109 : decode cX3_measureLevels 109 = .ok (.getfield 93, 3) := by decide +kernel
theorem dX3_measureLevels_112 : decode cX3_measureLevels 112 = .ok (.if_icmp .ge 34, 3) := by decide +kernel
theorem dX3_measureLevels_115 : decode cX3_measureLevels 115 = .ok (.aload_n 0, 1) := by decide +kernel
theorem dX3_measureLevels_116 : decode cX3_measureLevels 116 = .ok (.aload_n 0, 1) := by decide +kernel
theorem dX3_measureLevels_117 : decode cX3_measureLevels 117 = .ok (.getfield 52, 3) := by decide +kernel
theorem dX3_measureLevels_120 : decode cX3_measureLevels 120 = .ok (.iload_n 2, 1) := by decide +kernel
theorem dX3_measureLevels_121 : decode cX3_measureLevels 121 = .ok (.iaload, 1) := by decide +kernel
theorem dX3_measureLevels_122 : decode cX3_measureLevels 122 = .ok (.iload_n 1, 1) := by decide +kernel
theorem dX3_measureLevels_123 : decode cX3_measureLevels 123 = .ok (.iconst 1, 1) := by decide +kernel
theorem dX3_measureLevels_124 : decode cX3_measureLevels 124 = .ok (.iadd, 1) := by decide +kernel
theorem dX3_measureLevels_125 : decode cX3_measureLevels 125 = .ok (.invokevirtual 193, 3) := by decide +kernel
theorem dX3_measureLevels_128 : decode cX3_measureLevels 128 = .ok (.aload_n 0, 1) := by decide +kernel
theorem dX3_measureLevels_129 : decode cX3_measureLevels 129 = .ok (.aload_n 0, 1) := by decide +kernel
theorem dX3_measureLevels_130 : decode cX3_measureLevels 130 = .ok (.getfield 52, 3) := by decide +kernel
theorem dX3_measureLevels_133 : decode cX3_measureLevels 133 = .ok (.iload_n 2, 1) := by decide +kernel
theorem dX3_measureLevels_134 : decode cX3_measureLevels 134 = .ok (.iaload, 1) := by decide +kernel
theorem dX3_measureLevels_135 : decode cX3_measureLevels 135 = .ok (.iload_n 1, 1) := by decide +kernel
theorem dX3_measureLevels_136 : decode cX3_measureLevels 136 = .ok (.invokestatic 136, 3) := by decide +kernel
theorem dX3_measureLevels_139 : decode cX3_measureLevels 139 = .ok (.ior, 1) := by decide +kernel
theorem dX3_measureLevels_140 : decode cX3_measureLevels 140 = .ok (.iload_n 1, 1) := by decide +kernel
theorem dX3_measureLevels_141 : decode cX3_measureLevels 141 = .ok (.iconst 1, 1) := by decide +kernel
theorem dX3_measureLevels_142 : decode cX3_measureLevels 142 = .ok (.iadd, 1) := by decide +kernel
theorem dX3_measureLevels_143 : decode cX3_measureLevels 143 = .ok (.invokevirtual 193, 3) := by decide +kernel
theorem dX3_measureLevels_146 : decode cX3_measureLevels 146 = .ok (.iinc 2 1, 3) := by decide +kernel
theorem dX3_measureLevels_149 : decode cX3_measureLevels 149 = .ok (.goto (-87), 3) := by decide +kernel
theorem dX3_measureLevels_152 : decode cX3_measureLevels 152 = .ok (.aload_n 0, 1) := by decide +kernel
theorem dX3_measureLevels_153 : decode cX3_measureLevels 153 = .ok (.aload_n 0, 1) := by decide +kernel
theorem dX3_measureLevels_154 : decode cX3_measureLevels 154 = .ok (.getfield 178, 3) := by decide +kernel
theorem dX3_measureLevels_157 : decode cX3_measureLevels 157 = .ok (.putfield 184, 3) := by decide +kernel
theorem dX3_measureLevels_160 : decode cX3_measureLevels 160 = .ok (.iconst 0, 1) := by decide +kernel
theorem dX3_measureLevels_161 : decode cX3_measureLevels 161 = .ok (.istore_n 2, 1) := by decide +kernel
theorem dX3_measureLevels_162 : decode cX3_measureLevels 162 = .ok (.iload_n 2, 1) := by decide +kernel
theorem dX3_measureLevels_163 : decode cX3_measureLevels 163 = .ok (.aload_n 0, 1) := by decide +kernel
theorem dX3_measureLevels_164 : decode cX3_measureLevels 164 = .ok (.getfield 184, 3) := by decide +kernel
theorem dX3_measureLevels_167 : decode cX3_measureLevels 167 = .ok (.if_icmp .ge 21, 3) := by decide +kernel
theorem dX3_measureLevels_170 : decode cX3_measureLevels 170 = .ok (.aload_n 0, 1) := by decide +kernel
theorem dX3_measureLevels_171 : decode cX3_measureLevels 171 = .ok (.getfield 52, 3) := by decide +kernel
theorem dX3_measureLevels_174 : decode cX3_measureLevels 174 = .ok (.iload_n 2, 1) := by decide +kernel
theorem dX3_measureLevels_175 : decode cX3_measureLevels 175 = .ok (.aload_n 0, 1) := by decide +kernel
theorem dX3_measureLevels_176 : decode cX3_measureLevels 176 = .ok (.getfield 55, 3) := by decide +kernel
theorem dX3_measureLevels_179 : decode cX3_measureLevels 179 = .ok (.iload_n 2, 1) := by decide +kernel
theorem dX3_measureLevels_180 : decode cX3_measureLevels 180 = .ok (.iaload, 1) := by decide +kernel
theorem dX3_measureLevels_181 : decode cX3_measureLevels 181 = .ok (.iastore, 1) := by decide +kernel
theorem dX3_measureLevels_182 : decode cX3_measureLevels 182 = .ok (.iinc 2 1, 3) := by decide +kernel
theorem dX3_measureLevels_185 : decode cX3_measureLevels 185 = .ok (.goto (-23), 3) := by decide +kernel
theorem dX3_measureLevels_188 : decode cX3_measureLevels 188 = .ok (.iinc 1 1, 3) := by decide +kernel
theorem dX3_measureLevels_191 : decode cX3_measureLevels 191 = .ok (.goto (-160), 3) := by decide +kernel
theorem dX3_measureLevels_194 : decode cX3_measureLevels 194 = .ok (.return_, 1) := by decide +kernel
theorem dX3_edges_0 : decode cX3_edges 0 = .ok (.aload_n 0, 1) := by decide +kernel
theorem dX3_edges_1 : decode cX3_edges 1 = .ok (.iconst 0, 1) := by decide +kernel
theorem dX3_edges_2 : decode cX3_edges 2 = .ok (.putfield 103, 3) := by decide +kernel
theorem dX3_edges_5 : decode cX3_edges 5 = .ok (.aload_n 0, 1) := by decide +kernel
theorem dX3_edges_6 : decode cX3_edges 6 = .ok (.getfield 93, 3) := by decide +kernel
theorem dX3_edges_9 : decode cX3_edges 9 = .ok (.ireturn, 1) := by decide +kernel
theorem dX3_isEdge_0 : decode cX3_isEdge 0 = .ok (.iload_n 1, 1) := by decide +kernel
theorem dX3_isEdge_1 : decode cX3_isEdge 1 = .ok (.ifCond .lt 15, 3) := by decide +kernel
theorem dX3_isEdge_4 : decode cX3_isEdge 4 = .ok (.iload_n 1, 1) := by decide +kernel
theorem dX3_isEdge_5 : decode cX3_isEdge 5 = .ok (.aload_n 0, 1) := by decide +kernel
theorem dX3_isEdge_6 : decode cX3_isEdge 6 = .ok (.getfield 93, 3) := by decide +kernel
theorem dX3_isEdge_9 : decode cX3_isEdge 9 = .ok (.if_icmp .ge 7, 3) := by decide +kernel
theorem dX3_isEdge_12 : decode cX3_isEdge 12 = .ok (.iconst 1, 1) := by decide +kernel
theorem dX3_isEdge_13 : decode cX3_isEdge 13 = .ok (.goto 4, 3) := by decide +kernel
theorem dX3_isEdge_16 : decode cX3_isEdge 16 = .ok (.iconst 0, 1) := by decide +kernel
theorem dX3_isEdge_17 : decode cX3_isEdge 17 = .ok (.ireturn, 1) := by decide +kernel
theorem dX3_point_0 : decode cX3_point 0 = .ok (.aload_n 0, 1) := by decide +kernel
theorem dX3_point_1 : decode cX3_point 1 = .ok (.aload_n 0, 1) := by decide +kernel
theorem dX3_point_2 : decode cX3_point 2 = .ok (.iload_n 1, 1) := by decide +kernel
theorem dX3_point_3 : decode cX3_point 3 = .ok (.invokevirtual 196, 3) := by decide +kernel
theorem dX3_point_6 : decode cX3_point 6 = .ok (.ifCond .eq 7, 3) := by decide +kernel
theorem dX3_point_9 : decode cX3_point 9 = .ok (.iconst 0, 1) := by decide +kernel
theorem dX3_point_10 : decode cX3_point 10 = .ok (.goto 4, 3) := by decide +kernel
theorem dX3_point_13 : decode cX3_point 13 = .ok (.iconst 1, 1) := by decide +kernel
theorem dX3_point_14 : decode cX3_point 14 = .ok (.putfield 103, 3) := by decide +kernel
theorem dX3_point_17 : decode cX3_point 17 = .ok (.aload_n 0, 1) := by decide +kernel
theorem dX3_point_18 : decode cX3_point 18 = .ok (.getfield 103, 3) := by decide +kernel
theorem dX3_point_21 : decode cX3_point 21 = .ok (.ifCond .le 7, 3) := by decide +kernel
theorem dX3_point_24 : decode cX3_point 24 = .ok (.iconst 0, 1) := by decide +kernel
theorem dX3_point_25 : decode cX3_point 25 = .ok (.goto 22, 3) := by decide +kernel
theorem dX3_point_28 : decode cX3_point 28 = .ok (.iload_n 2, 1) := by decide +kernel
theorem dX3_point_29 : decode cX3_point 29 = .ok (.ifCond .eq 12, 3) := by decide +kernel
theorem dX3_point_32 : decode cX3_point 32 = .ok (.aload_n 0, 1) := by decide +kernel
theorem dX3_point_33 : decode cX3_point 33 = .ok (.getfield 13, 3) := by decide +kernel
theorem dX3_point_36 : decode cX3_point 36 = .ok (.iload_n 1, 1) := by decide +kernel
theorem dX3_point_37 : decode cX3_point 37 = .ok (.iaload, 1) := by decide +kernel
theorem dX3_point_38 : decode cX3_point 38 = .ok (.goto 9, 3) := by decide +kernel
theorem dX3_point_41 : decode cX3_point 41 = .ok (.aload_n 0, 1) := by decide +kernel
theorem dX3_point_42 : decode cX3_point 42 = .ok (.getfield 7, 3) := by decide +kernel
theorem dX3_point_45 : decode cX3_point 45 = .ok (.iload_n 1, 1) := by decide +kernel
theorem dX3_point_46 : decode cX3_point 46 = .ok (.iaload, 1) := by decide +kernel
theorem dX3_point_47 : decode cX3_point 47 = .ok (.ireturn, 1) := by decide +kernel
theorem dX3_clue_0 : decode cX3_clue 0 = .ok (.aload_n 0, 1) := by decide +kernel
theorem dX3_clue_1 : decode cX3_clue 1 = .ok (.iload_n 1, 1) := by decide +kernel
theorem dX3_clue_2 : decode cX3_clue 2 = .ok (.iload_n 2, 1) := by decide +kernel
theorem dX3_clue_3 : decode cX3_clue 3 = .ok (.invokevirtual 82, 3) := by decide +kernel
theorem dX3_clue_6 : decode cX3_clue 6 = .ok (.istore 4, 2) := by decide +kernel
theorem dX3_clue_8 : decode cX3_clue 8 = .ok (.aload_n 0, 1) := by decide +kernel
theorem dX3_clue_9 : decode cX3_clue 9 = .ok (.iload 4, 2) := by decide +kernel
theorem dX3_clue_11 : decode cX3_clue 11 = .ok (.ifCond .ge 7, 3) := by decide +kernel
theorem dX3_clue_14 : decode cX3_clue 14 = .ok (.iconst 1, 1) := by decide +kernel
theorem dX3_clue_15 : decode cX3_clue 15 = .ok (.goto 18, 3) := by decide +kernel
theorem dX3_clue_18 : decode cX3_clue 18 = .ok (.iload_n 3, 1) := by decide +kernel
theorem dX3_clue_19 : decode cX3_clue 19 = .ok (.iconst (-1), 1) := by decide +kernel
theorem dX3_clue_20 : decode cX3_clue 20 = .ok (.if_icmp .lt 8, 3) := by decide +kernel
theorem dX3_clue_23 : decode cX3_clue 23 = .ok (.iload_n 3, 1) := by decide +kernel
theorem dX3_clue_24 : decode cX3_clue 24 = .ok (.iconst 4, 1) := by decide +kernel
theorem dX3_clue_25 : decode cX3_clue 25 = .ok (.if_icmp .le 7, 3) := by decide +kernel
theorem dX3_clue_28 : decode cX3_clue 28 = .ok (.iconst 2, 1) := by decide +kernel
theorem dX3_clue_29 : decode cX3_clue 29 = .ok (.goto 4, 3) := by decide +kernel
theorem dX3_clue_32 : decode cX3_clue 32 = .ok (.iconst 0, 1) := by decide +kernel
theorem dX3_clue_33 : decode cX3_clue 33 = .ok (.putfield 103, 3) := by decide +kernel
theorem dX3_clue_36 : decode cX3_clue 36 = .ok (.aload_n 0, 1) := by decide +kernel
theorem dX3_clue_37 : decode cX3_clue 37 = .ok (.getfield 103, 3) := by decide +kernel
theorem dX3_clue_40 : decode cX3_clue 40 = .ok (.ifCond .ne 16, 3) := by decide +kernel
theorem dX3_clue_43 : decode cX3_clue 43 = .ok (.aload_n 0, 1) := by decide +kernel
theorem dX3_clue_44 : decode cX3_clue 44 = .ok (.getfield 40, 3) := by decide +kernel
theorem dX3_clue_47 : decode cX3_clue 47 = .ok (.iload 4, 2) := by decide +kernel
theorem dX3_clue_49 : decode cX3_clue 49 = .ok (.iload_n 3, 1) := by decide +kernel
theorem dX3_clue_50 : decode cX3_clue 50 = .ok (.iastore, 1) := by decide +kernel
theorem dX3_clue_51 : decode cX3_clue 51 = .ok (.aload_n 0, 1) := by decide +kernel
theorem dX3_clue_52 : decode cX3_clue 52 = .ok (.iconst 0, 1) := by decide +kernel
theorem dX3_clue_53 : decode cX3_clue 53 = .ok (.putfield 152, 3) := by decide +kernel
theorem dX3_clue_56 : decode cX3_clue 56 = .ok (.return_, 1) := by decide +kernel
theorem dX3_clueOf_0 : decode cX3_clueOf 0 = .ok (.aload_n 0, 1) := by decide +kernel
theorem dX3_clueOf_1 : decode cX3_clueOf 1 = .ok (.iload_n 1, 1) := by decide +kernel
theorem dX3_clueOf_2 : decode cX3_clueOf 2 = .ok (.iload_n 2, 1) := by decide +kernel
theorem dX3_clueOf_3 : decode cX3_clueOf 3 = .ok (.invokevirtual 82, 3) := by decide +kernel
theorem dX3_clueOf_6 : decode cX3_clueOf 6 = .ok (.istore_n 3, 1) := by decide +kernel
theorem dX3_clueOf_7 : decode cX3_clueOf 7 = .ok (.aload_n 0, 1) := by decide +kernel
theorem dX3_clueOf_8 : decode cX3_clueOf 8 = .ok (.iload_n 3, 1) := by decide +kernel
theorem dX3_clueOf_9 : decode cX3_clueOf 9 = .ok (.ifCond .ge 7, 3) := by decide +kernel
theorem dX3_clueOf_12 : decode cX3_clueOf 12 = .ok (.iconst 1, 1) := by decide +kernel
theorem dX3_clueOf_13 : decode cX3_clueOf 13 = .ok (.goto 4, 3) := by decide +kernel
theorem dX3_clueOf_16 : decode cX3_clueOf 16 = .ok (.iconst 0, 1) := by decide +kernel
theorem dX3_clueOf_17 : decode cX3_clueOf 17 = .ok (.putfield 103, 3) := by decide +kernel
theorem dX3_clueOf_20 : decode cX3_clueOf 20 = .ok (.iload_n 3, 1) := by decide +kernel
theorem dX3_clueOf_21 : decode cX3_clueOf 21 = .ok (.ifCond .ge 7, 3) := by decide +kernel
theorem dX3_clueOf_24 : decode cX3_clueOf 24 = .ok (.iconst 0, 1) := by decide +kernel
theorem dX3_clueOf_25 : decode cX3_clueOf 25 = .ok (.goto 9, 3) := by decide +kernel
theorem dX3_clueOf_28 : decode cX3_clueOf 28 = .ok (.aload_n 0, 1) := by decide +kernel
theorem dX3_clueOf_29 : decode cX3_clueOf 29 = .ok (.getfield 40, 3) := by decide +kernel
theorem dX3_clueOf_32 : decode cX3_clueOf 32 = .ok (.iload_n 3, 1) := by decide +kernel
theorem dX3_clueOf_33 : decode cX3_clueOf 33 = .ok (.iaload, 1) := by decide +kernel
theorem dX3_clueOf_34 : decode cX3_clueOf 34 = .ok (.ireturn, 1) := by decide +kernel
theorem dX3_count_0 : decode cX3_count 0 = .ok (.aload_n 0, 1) := by decide +kernel
theorem dX3_count_1 : decode cX3_count 1 = .ok (.iconst 0, 1) := by decide +kernel
theorem dX3_count_2 : decode cX3_count 2 = .ok (.putfield 103, 3) := by decide +kernel
theorem dX3_count_5 : decode cX3_count 5 = .ok (.aload_n 0, 1) := by decide +kernel
theorem dX3_count_6 : decode cX3_count 6 = .ok (.invokevirtual 181, 3) := by decide +kernel
theorem dX3_count_9 : decode cX3_count 9 = .ok (.aload_n 0, 1) := by decide +kernel
theorem dX3_count_10 : decode cX3_count 10 = .ok (.getfield 159, 3) := by decide +kernel
theorem dX3_count_13 : decode cX3_count 13 = .ok (.ireturn, 1) := by decide +kernel
theorem dX3_width_0 : decode cX3_width 0 = .ok (.aload_n 0, 1) := by decide +kernel
theorem dX3_width_1 : decode cX3_width 1 = .ok (.iload_n 1, 1) := by decide +kernel
theorem dX3_width_2 : decode cX3_width 2 = .ok (.ifCond .lt 11, 3) := by decide +kernel
theorem dX3_width_5 : decode cX3_width 5 = .ok (.iload_n 1, 1) := by decide +kernel
theorem dX3_width_6 : decode cX3_width 6 = .ok (.aload_n 0, 1) := by decide +kernel
theorem dX3_width_7 : decode cX3_width 7 = .ok (.getfield 93, 3) := by decide +kernel
theorem dX3_width_10 : decode cX3_width 10 = .ok (.if_icmp .le 7, 3) := by decide +kernel
theorem dX3_width_13 : decode cX3_width 13 = .ok (.iconst 1, 1) := by decide +kernel
theorem dX3_width_14 : decode cX3_width 14 = .ok (.goto 4, 3) := by decide +kernel
theorem dX3_width_17 : decode cX3_width 17 = .ok (.iconst 0, 1) := by decide +kernel
theorem dX3_width_18 : decode cX3_width 18 = .ok (.putfield 103, 3) := by decide +kernel
theorem dX3_width_21 : decode cX3_width 21 = .ok (.aload_n 0, 1) := by decide +kernel
theorem dX3_width_22 : decode cX3_width 22 = .ok (.getfield 103, 3) := by decide +kernel
theorem dX3_width_25 : decode cX3_width 25 = .ok (.ifCond .le 5, 3) := by decide +kernel
theorem dX3_width_28 : decode cX3_width 28 = .ok (.iconst 0, 1) := by decide +kernel
theorem dX3_width_29 : decode cX3_width 29 = .ok (.ireturn, 1) := by decide +kernel
theorem dX3_width_30 : decode cX3_width 30 = .ok (.aload_n 0, 1) := by decide +kernel
theorem dX3_width_31 : decode cX3_width 31 = .ok (.invokevirtual 199, 3) := by decide +kernel
theorem dX3_width_34 : decode cX3_width 34 = .ok (.iload_n 2, 1) := by decide +kernel
theorem dX3_width_35 : decode cX3_width 35 = .ok (.ifCond .eq 12, 3) := by decide +kernel
theorem dX3_width_38 : decode cX3_width 38 = .ok (.aload_n 0, 1) := by decide +kernel
theorem dX3_width_39 : decode cX3_width 39 = .ok (.getfield 49, 3) := by decide +kernel
theorem dX3_width_42 : decode cX3_width 42 = .ok (.iload_n 1, 1) := by decide +kernel
theorem dX3_width_43 : decode cX3_width 43 = .ok (.iaload, 1) := by decide +kernel
theorem dX3_width_44 : decode cX3_width 44 = .ok (.goto 9, 3) := by decide +kernel
theorem dX3_width_47 : decode cX3_width 47 = .ok (.aload_n 0, 1) := by decide +kernel
theorem dX3_width_48 : decode cX3_width 48 = .ok (.getfield 46, 3) := by decide +kernel
theorem dX3_width_51 : decode cX3_width 51 = .ok (.iload_n 1, 1) := by decide +kernel
theorem dX3_width_52 : decode cX3_width 52 = .ok (.iaload, 1) := by decide +kernel
theorem dX3_width_53 : decode cX3_width 53 = .ok (.ireturn, 1) := by decide +kernel
theorem dX3_nodes_0 : decode cX3_nodes 0 = .ok (.aload_n 0, 1) := by decide +kernel
theorem dX3_nodes_1 : decode cX3_nodes 1 = .ok (.iconst 0, 1) := by decide +kernel
theorem dX3_nodes_2 : decode cX3_nodes 2 = .ok (.putfield 103, 3) := by decide +kernel
theorem dX3_nodes_5 : decode cX3_nodes 5 = .ok (.aload_n 0, 1) := by decide +kernel
theorem dX3_nodes_6 : decode cX3_nodes 6 = .ok (.invokevirtual 199, 3) := by decide +kernel
theorem dX3_nodes_9 : decode cX3_nodes 9 = .ok (.iconst 0, 1) := by decide +kernel
theorem dX3_nodes_10 : decode cX3_nodes 10 = .ok (.istore_n 1, 1) := by decide +kernel
theorem dX3_nodes_11 : decode cX3_nodes 11 = .ok (.iconst 0, 1) := by decide +kernel
theorem dX3_nodes_12 : decode cX3_nodes 12 = .ok (.istore_n 2, 1) := by decide +kernel
theorem dX3_nodes_13 : decode cX3_nodes 13 = .ok (.iload_n 2, 1) := by decide +kernel
theorem dX3_nodes_14 : decode cX3_nodes 14 = .ok (.aload_n 0, 1) := by decide +kernel
theorem dX3_nodes_15 : decode cX3_nodes 15 = .ok (.getfield 93, 3) := by decide +kernel
theorem dX3_nodes_18 : decode cX3_nodes 18 = .ok (.if_icmp .gt 18, 3) := by decide +kernel
theorem dX3_nodes_21 : decode cX3_nodes 21 = .ok (.iload_n 1, 1) := by decide +kernel
theorem dX3_nodes_22 : decode cX3_nodes 22 = .ok (.aload_n 0, 1) := by decide +kernel
theorem dX3_nodes_23 : decode cX3_nodes 23 = .ok (.getfield 46, 3) := by decide +kernel
theorem dX3_nodes_26 : decode cX3_nodes 26 = .ok (.iload_n 2, 1) := by decide +kernel
theorem dX3_nodes_27 : decode cX3_nodes 27 = .ok (.iaload, 1) := by decide +kernel
theorem dX3_nodes_28 : decode cX3_nodes 28 = .ok (.iadd, 1) := by decide +kernel
theorem dX3_nodes_29 : decode cX3_nodes 29 = .ok (.istore_n 1, 1) := by decide +kernel
theorem dX3_nodes_30 : decode cX3_nodes 30 = .ok (.iinc 2 1, 3) := by decide +kernel
theorem dX3_nodes_33 : decode cX3_nodes 33 = .ok (.goto (-20), 3) := by decide +kernel
theorem dX3_nodes_36 : decode cX3_nodes 36 = .ok (.iload_n 1, 1) := by decide +kernel
theorem dX3_nodes_37 : decode cX3_nodes 37 = .ok (.ireturn, 1) := by decide +kernel
theorem dX3_isSolution_0 : decode cX3_isSolution 0 = .ok (.aload_n 0, 1) := by decide +kernel
theorem dX3_isSolution_1 : decode cX3_isSolution 1 = .ok (.invokevirtual 181, 3) := by decide +kernel
theorem dX3_isSolution_4 : decode cX3_isSolution 4 = .ok (.iload_n 1, 1) := by decide +kernel
theorem dX3_isSolution_5 : decode cX3_isSolution 5 = .ok (.ifCond .lt 15, 3) := by decide +kernel
theorem dX3_isSolution_8 : decode cX3_isSolution 8 = .ok (.iload_n 1, 1) := by decide +kernel
theorem dX3_isSolution_9 : decode cX3_isSolution 9 = .ok (.aload_n 0, 1) := by decide +kernel
theorem dX3_isSolution_10 : decode cX3_isSolution 10 = .ok (.getfield 159, 3) := by decide +kernel
theorem dX3_isSolution_13 : decode cX3_isSolution 13 = .ok (.if_icmp .ge 7, 3) := by decide +kernel
theorem dX3_isSolution_16 : decode cX3_isSolution 16 = .ok (.iconst 1, 1) := by decide +kernel
theorem dX3_isSolution_17 : decode cX3_isSolution 17 = .ok (.goto 4, 3) := by decide +kernel
theorem dX3_isSolution_20 : decode cX3_isSolution 20 = .ok (.iconst 0, 1) := by decide +kernel
theorem dX3_isSolution_21 : decode cX3_isSolution 21 = .ok (.ireturn, 1) := by decide +kernel
theorem dX3_has_0 : decode cX3_has 0 = .ok (.aload_n 0, 1) := by decide +kernel
theorem dX3_has_1 : decode cX3_has 1 = .ok (.aload_n 0, 1) := by decide +kernel
theorem dX3_has_2 : decode cX3_has 2 = .ok (.iload_n 1, 1) := by decide +kernel
theorem dX3_has_3 : decode cX3_has 3 = .ok (.invokevirtual 202, 3) := by decide +kernel
theorem dX3_has_6 : decode cX3_has 6 = .ok (.ifCond .ne 7, 3) := by decide +kernel
theorem dX3_has_9 : decode cX3_has 9 = .ok (.iconst 1, 1) := by decide +kernel
theorem dX3_has_10 : decode cX3_has 10 = .ok (.goto 16, 3) := by decide +kernel
theorem dX3_has_13 : decode cX3_has 13 = .ok (.aload_n 0, 1) := by decide +kernel
theorem dX3_has_14 : decode cX3_has 14 = .ok (.iload_n 2, 1) := by decide +kernel
theorem dX3_has_15 : decode cX3_has 15 = .ok (.invokevirtual 196, 3) := by decide +kernel
theorem dX3_has_18 : decode cX3_has 18 = .ok (.ifCond .ne 7, 3) := by decide +kernel
theorem dX3_has_21 : decode cX3_has 21 = .ok (.iconst 2, 1) := by decide +kernel
theorem dX3_has_22 : decode cX3_has 22 = .ok (.goto 4, 3) := by decide +kernel
theorem dX3_has_25 : decode cX3_has 25 = .ok (.iconst 0, 1) := by decide +kernel
theorem dX3_has_26 : decode cX3_has 26 = .ok (.putfield 103, 3) := by decide +kernel
theorem dX3_has_29 : decode cX3_has 29 = .ok (.aload_n 0, 1) := by decide +kernel
theorem dX3_has_30 : decode cX3_has 30 = .ok (.getfield 103, 3) := by decide +kernel
theorem dX3_has_33 : decode cX3_has 33 = .ok (.ifCond .ne 20, 3) := by decide +kernel
theorem dX3_has_36 : decode cX3_has 36 = .ok (.aload_n 0, 1) := by decide +kernel
theorem dX3_has_37 : decode cX3_has 37 = .ok (.getfield 43, 3) := by decide +kernel
theorem dX3_has_40 : decode cX3_has 40 = .ok (.iload_n 1, 1) := by decide +kernel
theorem dX3_has_41 : decode cX3_has 41 = .ok (.iaload, 1) := by decide +kernel
theorem dX3_has_42 : decode cX3_has 42 = .ok (.iload_n 2, 1) := by decide +kernel
theorem dX3_has_43 : decode cX3_has 43 = .ok (.invokestatic 106, 3) := by decide +kernel
theorem dX3_has_46 : decode cX3_has 46 = .ok (.ifCond .eq 7, 3) := by decide +kernel
theorem dX3_has_49 : decode cX3_has 49 = .ok (.iconst 1, 1) := by decide +kernel
theorem dX3_has_50 : decode cX3_has 50 = .ok (.goto 4, 3) := by decide +kernel
theorem dX3_has_53 : decode cX3_has 53 = .ok (.iconst 0, 1) := by decide +kernel
theorem dX3_has_54 : decode cX3_has 54 = .ok (.ireturn, 1) := by decide +kernel
theorem dX3_length_0 : decode cX3_length 0 = .ok (.aload_n 0, 1) := by decide +kernel
theorem dX3_length_1 : decode cX3_length 1 = .ok (.aload_n 0, 1) := by decide +kernel
theorem dX3_length_2 : decode cX3_length 2 = .ok (.iload_n 1, 1) := by decide +kernel
theorem dX3_length_3 : decode cX3_length 3 = .ok (.invokevirtual 202, 3) := by decide +kernel
theorem dX3_length_6 : decode cX3_length 6 = .ok (.ifCond .eq 7, 3) := by decide +kernel
theorem dX3_length_9 : decode cX3_length 9 = .ok (.iconst 0, 1) := by decide +kernel
theorem dX3_length_10 : decode cX3_length 10 = .ok (.goto 4, 3) := by decide +kernel
theorem dX3_length_13 : decode cX3_length 13 = .ok (.iconst 1, 1) := by decide +kernel
theorem dX3_length_14 : decode cX3_length 14 = .ok (.putfield 103, 3) := by decide +kernel
theorem dX3_length_17 : decode cX3_length 17 = .ok (.aload_n 0, 1) := by decide +kernel
theorem dX3_length_18 : decode cX3_length 18 = .ok (.getfield 103, 3) := by decide +kernel
theorem dX3_length_21 : decode cX3_length 21 = .ok (.ifCond .ne 16, 3) := by decide +kernel
theorem dX3_length_24 : decode cX3_length 24 = .ok (.aload_n 0, 1) := by decide +kernel
theorem dX3_length_25 : decode cX3_length 25 = .ok (.aload_n 0, 1) := by decide +kernel
theorem dX3_length_26 : decode cX3_length 26 = .ok (.getfield 43, 3) := by decide +kernel
theorem dX3_length_29 : decode cX3_length 29 = .ok (.iload_n 1, 1) := by decide +kernel
theorem dX3_length_30 : decode cX3_length 30 = .ok (.iaload, 1) := by decide +kernel
theorem dX3_length_31 : decode cX3_length 31 = .ok (.invokevirtual 205, 3) := by decide +kernel
theorem dX3_length_34 : decode cX3_length 34 = .ok (.goto 4, 3) := by decide +kernel
theorem dX3_length_37 : decode cX3_length 37 = .ok (.iconst 0, 1) := by decide +kernel
theorem dX3_length_38 : decode cX3_length 38 = .ok (.ireturn, 1) := by decide +kernel
theorem dX3_often_0 : decode cX3_often 0 = .ok (.aload_n 0, 1) := by decide +kernel
theorem dX3_often_1 : decode cX3_often 1 = .ok (.aload_n 0, 1) := by decide +kernel
theorem dX3_often_2 : decode cX3_often 2 = .ok (.iload_n 1, 1) := by decide +kernel
theorem dX3_often_3 : decode cX3_often 3 = .ok (.invokevirtual 196, 3) := by decide +kernel
theorem dX3_often_6 : decode cX3_often 6 = .ok (.ifCond .eq 7, 3) := by decide +kernel
theorem dX3_often_9 : decode cX3_often 9 = .ok (.iconst 0, 1) := by decide +kernel
theorem dX3_often_10 : decode cX3_often 10 = .ok (.goto 4, 3) := by decide +kernel
theorem dX3_often_13 : decode cX3_often 13 = .ok (.iconst 1, 1) := by decide +kernel
theorem dX3_often_14 : decode cX3_often 14 = .ok (.putfield 103, 3) := by decide +kernel
theorem dX3_often_17 : decode cX3_often 17 = .ok (.aload_n 0, 1) := by decide +kernel
theorem dX3_often_18 : decode cX3_often 18 = .ok (.getfield 103, 3) := by decide +kernel
theorem dX3_often_21 : decode cX3_often 21 = .ok (.ifCond .ne 14, 3) := by decide +kernel
theorem dX3_often_24 : decode cX3_often 24 = .ok (.aload_n 0, 1) := by decide +kernel
theorem dX3_often_25 : decode cX3_often 25 = .ok (.iload_n 1, 1) := by decide +kernel
theorem dX3_often_26 : decode cX3_often 26 = .ok (.invokestatic 136, 3) := by decide +kernel
theorem dX3_often_29 : decode cX3_often 29 = .ok (.invokevirtual 208, 3) := by decide +kernel
theorem dX3_often_32 : decode cX3_often 32 = .ok (.goto 4, 3) := by decide +kernel
theorem dX3_often_35 : decode cX3_often 35 = .ok (.iconst 0, 1) := by decide +kernel
theorem dX3_often_36 : decode cX3_often 36 = .ok (.ireturn, 1) := by decide +kernel
theorem dX3_withAll_0 : decode cX3_withAll 0 = .ok (.aload_n 0, 1) := by decide +kernel
theorem dX3_withAll_1 : decode cX3_withAll 1 = .ok (.invokevirtual 181, 3) := by decide +kernel
theorem dX3_withAll_4 : decode cX3_withAll 4 = .ok (.iconst 0, 1) := by decide +kernel
theorem dX3_withAll_5 : decode cX3_withAll 5 = .ok (.istore_n 2, 1) := by decide +kernel
theorem dX3_withAll_6 : decode cX3_withAll 6 = .ok (.iconst 0, 1) := by decide +kernel
theorem dX3_withAll_7 : decode cX3_withAll 7 = .ok (.istore_n 3, 1) := by decide +kernel
theorem dX3_withAll_8 : decode cX3_withAll 8 = .ok (.iload_n 3, 1) := by decide +kernel
theorem dX3_withAll_9 : decode cX3_withAll 9 = .ok (.aload_n 0, 1) := by decide +kernel
theorem dX3_withAll_10 : decode cX3_withAll 10 = .ok (.getfield 159, 3) := by decide +kernel
theorem dX3_withAll_13 : decode cX3_withAll 13 = .ok (.if_icmp .ge 29, 3) := by decide +kernel
theorem dX3_withAll_16 : decode cX3_withAll 16 = .ok (.aload_n 0, 1) := by decide +kernel
theorem dX3_withAll_17 : decode cX3_withAll 17 = .ok (.getfield 43, 3) := by decide +kernel
theorem dX3_withAll_20 : decode cX3_withAll 20 = .ok (.iload_n 3, 1) := by decide +kernel
theorem dX3_withAll_21 : decode cX3_withAll 21 = .ok (.iaload, 1) := by decide +kernel
theorem dX3_withAll_22 : decode cX3_withAll 22 = .ok (.iload_n 1, 1) := by decide +kernel
theorem dX3_withAll_23 : decode cX3_withAll 23 = .ok (.iand, 1) := by decide +kernel
theorem dX3_withAll_24 : decode cX3_withAll 24 = .ok (.iload_n 1, 1) := by decide +kernel
theorem dX3_withAll_25 : decode cX3_withAll 25 = .ok (.if_icmp .ne 9, 3) := by decide +kernel
theorem dX3_withAll_28 : decode cX3_withAll 28 = .ok (.iload_n 2, 1) := by decide +kernel
theorem dX3_withAll_29 : decode cX3_withAll 29 = .ok (.iconst 1, 1) := by decide +kernel
theorem dX3_withAll_30 : decode cX3_withAll 30 = .ok (.iadd, 1) := by decide +kernel
theorem dX3_withAll_31 : decode cX3_withAll 31 = .ok (.goto 4, 3) := by decide +kernel
theorem dX3_withAll_34 : decode cX3_withAll 34 = .ok (.iload_n 2, 1) := by decide +kernel
theorem dX3_withAll_35 : decode cX3_withAll 35 = .ok (.istore_n 2, 1) := by decide +kernel
theorem dX3_withAll_36 : decode cX3_withAll 36 = .ok (.iinc 3 1, 3) := by decide +kernel
theorem dX3_withAll_39 : decode cX3_withAll 39 = .ok (.goto (-31), 3) := by decide +kernel
theorem dX3_withAll_42 : decode cX3_withAll 42 = .ok (.iload_n 2, 1) := by decide +kernel
theorem dX3_withAll_43 : decode cX3_withAll 43 = .ok (.ireturn, 1) := by decide +kernel
theorem dX3_draw_0 : decode cX3_draw 0 = .ok (.aload_n 0, 1) := by decide +kernel
theorem dX3_draw_1 : decode cX3_draw 1 = .ok (.aload_n 0, 1) := by decide +kernel
theorem dX3_draw_2 : decode cX3_draw 2 = .ok (.iload_n 1, 1) := by decide +kernel
theorem dX3_draw_3 : decode cX3_draw 3 = .ok (.invokevirtual 196, 3) := by decide +kernel
theorem dX3_draw_6 : decode cX3_draw 6 = .ok (.ifCond .eq 7, 3) := by decide +kernel
theorem dX3_draw_9 : decode cX3_draw 9 = .ok (.iconst 0, 1) := by decide +kernel
theorem dX3_draw_10 : decode cX3_draw 10 = .ok (.goto 4, 3) := by decide +kernel
theorem dX3_draw_13 : decode cX3_draw 13 = .ok (.iconst 1, 1) := by decide +kernel
theorem dX3_draw_14 : decode cX3_draw 14 = .ok (.putfield 103, 3) := by decide +kernel
theorem dX3_draw_17 : decode cX3_draw 17 = .ok (.aload_n 0, 1) := by decide +kernel
theorem dX3_draw_18 : decode cX3_draw 18 = .ok (.getfield 103, 3) := by decide +kernel
theorem dX3_draw_21 : decode cX3_draw 21 = .ok (.ifCond .le 5, 3) := by decide +kernel
theorem dX3_draw_24 : decode cX3_draw 24 = .ok (.iconst 0, 1) := by decide +kernel
theorem dX3_draw_25 : decode cX3_draw 25 = .ok (.ireturn, 1) := by decide +kernel
theorem dX3_draw_26 : decode cX3_draw 26 = .ok (.aload_n 0, 1) := by decide +kernel
theorem dX3_draw_27 : decode cX3_draw 27 = .ok (.aload_n 0, 1) := by decide +kernel
theorem dX3_draw_28 : decode cX3_draw 28 = .ok (.getfield 211, 3) := by decide +kernel
theorem dX3_draw_31 : decode cX3_draw 31 = .ok (.iload_n 1, 1) := by decide +kernel
theorem dX3_draw_32 : decode cX3_draw 32 = .ok (.invokestatic 136, 3) := by decide +kernel
theorem dX3_draw_35 : decode cX3_draw 35 = .ok (.ixor, 1) := by decide +kernel
theorem dX3_draw_36 : decode cX3_draw 36 = .ok (.putfield 211, 3) := by decide +kernel
theorem dX3_draw_39 : decode cX3_draw 39 = .ok (.aload_n 0, 1) := by decide +kernel
theorem dX3_draw_40 : decode cX3_draw 40 = .ok (.getfield 211, 3) := by decide +kernel
theorem dX3_draw_43 : decode cX3_draw 43 = .ok (.iload_n 1, 1) := by decide +kernel
theorem dX3_draw_44 : decode cX3_draw 44 = .ok (.invokestatic 106, 3) := by decide +kernel
theorem dX3_draw_47 : decode cX3_draw 47 = .ok (.ireturn, 1) := by decide +kernel
theorem dX3_copy_0 : decode cX3_copy 0 = .ok (.aload_n 0, 1) := by decide +kernel
theorem dX3_copy_1 : decode cX3_copy 1 = .ok (.aload_n 0, 1) := by decide +kernel
theorem dX3_copy_2 : decode cX3_copy 2 = .ok (.iload_n 1, 1) := by decide +kernel
theorem dX3_copy_3 : decode cX3_copy 3 = .ok (.invokevirtual 202, 3) := by decide +kernel
theorem dX3_copy_6 : decode cX3_copy 6 = .ok (.ifCond .eq 7, 3) := by decide +kernel
theorem dX3_copy_9 : decode cX3_copy 9 = .ok (.iconst 0, 1) := by decide +kernel
theorem dX3_copy_10 : decode cX3_copy 10 = .ok (.goto 4, 3) := by decide +kernel
theorem dX3_copy_13 : decode cX3_copy 13 = .ok (.iconst 1, 1) := by decide +kernel
theorem dX3_copy_14 : decode cX3_copy 14 = .ok (.putfield 103, 3) := by decide +kernel
theorem dX3_copy_17 : decode cX3_copy 17 = .ok (.aload_n 0, 1) := by decide +kernel
theorem dX3_copy_18 : decode cX3_copy 18 = .ok (.aload_n 0, 1) := by decide +kernel
theorem dX3_copy_19 : decode cX3_copy 19 = .ok (.getfield 103, 3) := by decide +kernel
theorem dX3_copy_22 : decode cX3_copy 22 = .ok (.ifCond .ne 12, 3) := by decide +kernel
theorem dX3_copy_25 : decode cX3_copy 25 = .ok (.aload_n 0, 1) := by decide +kernel
theorem dX3_copy_26 : decode cX3_copy 26 = .ok (.getfield 43, 3) := by decide +kernel
theorem dX3_copy_29 : decode cX3_copy 29 = .ok (.iload_n 1, 1) := by decide +kernel
theorem dX3_copy_30 : decode cX3_copy 30 = .ok (.iaload, 1) := by decide +kernel
theorem dX3_copy_31 : decode cX3_copy 31 = .ok (.goto 7, 3) := by decide +kernel
theorem dX3_copy_34 : decode cX3_copy 34 = .ok (.aload_n 0, 1) := by decide +kernel
theorem dX3_copy_35 : decode cX3_copy 35 = .ok (.getfield 211, 3) := by decide +kernel
theorem dX3_copy_38 : decode cX3_copy 38 = .ok (.putfield 211, 3) := by decide +kernel
theorem dX3_copy_41 : decode cX3_copy 41 = .ok (.return_, 1) := by decide +kernel
theorem dX3_drawn_0 : decode cX3_drawn 0 = .ok (.aload_n 0, 1) := by decide +kernel
theorem dX3_drawn_1 : decode cX3_drawn 1 = .ok (.iconst 0, 1) := by decide +kernel
theorem dX3_drawn_2 : decode cX3_drawn 2 = .ok (.putfield 103, 3) := by decide +kernel
theorem dX3_drawn_5 : decode cX3_drawn 5 = .ok (.aload_n 0, 1) := by decide +kernel
theorem dX3_drawn_6 : decode cX3_drawn 6 = .ok (.aload_n 0, 1) := by decide +kernel
theorem dX3_drawn_7 : decode cX3_drawn 7 = .ok (.getfield 211, 3) := by decide +kernel
theorem dX3_drawn_10 : decode cX3_drawn 10 = .ok (.invokevirtual 205, 3) := by decide +kernel
theorem dX3_drawn_13 : decode cX3_drawn 13 = .ok (.ireturn, 1) := by decide +kernel
theorem dX3_isLoop_0 : decode cX3_isLoop 0 = .ok (.aload_n 0, 1) := by decide +kernel
theorem dX3_isLoop_1 : decode cX3_isLoop 1 = .ok (.iconst 0, 1) := by decide +kernel
theorem dX3_isLoop_2 : decode cX3_isLoop 2 = .ok (.putfield 103, 3) := by decide +kernel
theorem dX3_isLoop_5 : decode cX3_isLoop 5 = .ok (.aload_n 0, 1) := by decide +kernel
theorem dX3_isLoop_6 : decode cX3_isLoop 6 = .ok (.aload_n 0, 1) := by decide +kernel
theorem dX3_isLoop_7 : decode cX3_isLoop 7 = .ok (.getfield 211, 3) := by decide +kernel
theorem dX3_isLoop_10 : decode cX3_isLoop 10 = .ok (.invokevirtual 143, 3) := by decide +kernel
theorem dX3_isLoop_13 : decode cX3_isLoop 13 = .ok (.ireturn, 1) := by decide +kernel
theorem dX3_rank_0 : decode cX3_rank 0 = .ok (.aload_n 0, 1) := by decide +kernel
theorem dX3_rank_1 : decode cX3_rank 1 = .ok (.invokevirtual 181, 3) := by decide +kernel
theorem dX3_rank_4 : decode cX3_rank 4 = .ok (.iconst 0, 1) := by decide +kernel
theorem dX3_rank_5 : decode cX3_rank 5 = .ok (.istore_n 1, 1) := by decide +kernel
theorem dX3_rank_6 : decode cX3_rank 6 = .ok (.iload_n 1, 1) := by decide +kernel
theorem dX3_rank_7 : decode cX3_rank 7 = .ok (.aload_n 0, 1) := by decide +kernel
theorem dX3_rank_8 : decode cX3_rank 8 = .ok (.getfield 159, 3) := by decide +kernel
theorem dX3_rank_11 : decode cX3_rank 11 = .ok (.if_icmp .ge 22, 3) := by decide +kernel
theorem dX3_rank_14 : decode cX3_rank 14 = .ok (.aload_n 0, 1) := by decide +kernel
theorem dX3_rank_15 : decode cX3_rank 15 = .ok (.getfield 43, 3) := by decide +kernel
theorem dX3_rank_18 : decode cX3_rank 18 = .ok (.iload_n 1, 1) := by decide +kernel
theorem dX3_rank_19 : decode cX3_rank 19 = .ok (.iaload, 1) := by decide +kernel
theorem dX3_rank_20 : decode cX3_rank 20 = .ok (.aload_n 0, 1) := by decide +kernel
theorem dX3_rank_21 : decode cX3_rank 21 = .ok (.getfield 211, 3) := by decide +kernel
theorem dX3_rank_24 : decode cX3_rank 24 = .ok (.if_icmp .eq 9, 3) := by decide +kernel
theorem dX3_rank_27 : decode cX3_rank 27 = .ok (.iinc 1 1, 3) := by decide +kernel
theorem dX3_rank_30 : decode cX3_rank 30 = .ok (.goto (-24), 3) := by decide +kernel
theorem dX3_rank_33 : decode cX3_rank 33 = .ok (.aload_n 0, 1) := by decide +kernel
theorem dX3_rank_34 : decode cX3_rank 34 = .ok (.iload_n 1, 1) := by decide +kernel
theorem dX3_rank_35 : decode cX3_rank 35 = .ok (.aload_n 0, 1) := by decide +kernel
theorem dX3_rank_36 : decode cX3_rank 36 = .ok (.getfield 159, 3) := by decide +kernel
theorem dX3_rank_39 : decode cX3_rank 39 = .ok (.if_icmp .ge 7, 3) := by decide +kernel
theorem dX3_rank_42 : decode cX3_rank 42 = .ok (.iconst 0, 1) := by decide +kernel
theorem dX3_rank_43 : decode cX3_rank 43 = .ok (.goto 4, 3) := by decide +kernel
theorem dX3_rank_46 : decode cX3_rank 46 = .ok (.iconst 1, 1) := by decide +kernel
theorem dX3_rank_47 : decode cX3_rank 47 = .ok (.putfield 103, 3) := by decide +kernel
theorem dX3_rank_50 : decode cX3_rank 50 = .ok (.aload_n 0, 1) := by decide +kernel
theorem dX3_rank_51 : decode cX3_rank 51 = .ok (.getfield 103, 3) := by decide +kernel
theorem dX3_rank_54 : decode cX3_rank 54 = .ok (.ifCond .ne 7, 3) := by decide +kernel
theorem dX3_rank_57 : decode cX3_rank 57 = .ok (.iload_n 1, 1) := by decide +kernel
theorem dX3_rank_58 : decode cX3_rank 58 = .ok (.goto 4, 3) := by decide +kernel
theorem dX3_rank_61 : decode cX3_rank 61 = .ok (.iconst 0, 1) := by decide +kernel
theorem dX3_rank_62 : decode cX3_rank 62 = .ok (.ireturn, 1) := by decide +kernel
theorem dX3_above_0 : decode cX3_above 0 = .ok (.aload_n 0, 1) := by decide +kernel
theorem dX3_above_1 : decode cX3_above 1 = .ok (.iconst 0, 1) := by decide +kernel
theorem dX3_above_2 : decode cX3_above 2 = .ok (.putfield 103, 3) := by decide +kernel
theorem dX3_above_5 : decode cX3_above 5 = .ok (.aload_n 0, 1) := by decide +kernel
theorem dX3_above_6 : decode cX3_above 6 = .ok (.aload_n 0, 1) := by decide +kernel
theorem dX3_above_7 : decode cX3_above 7 = .ok (.getfield 211, 3) := by decide +kernel
theorem dX3_above_10 : decode cX3_above 10 = .ok (.invokevirtual 208, 3) := by decide +kernel
theorem dX3_above_13 : decode cX3_above 13 = .ok (.ireturn, 1) := by decide +kernel
theorem dX3_alive_0 : decode cX3_alive 0 = .ok (.aload_n 0, 1) := by decide +kernel
theorem dX3_alive_1 : decode cX3_alive 1 = .ok (.iconst 0, 1) := by decide +kernel
theorem dX3_alive_2 : decode cX3_alive 2 = .ok (.putfield 103, 3) := by decide +kernel
theorem dX3_alive_5 : decode cX3_alive 5 = .ok (.iconst 0, 1) := by decide +kernel
theorem dX3_alive_6 : decode cX3_alive 6 = .ok (.istore_n 1, 1) := by decide +kernel
theorem dX3_alive_7 : decode cX3_alive 7 = .ok (.iconst 1, 1) := by decide +kernel
theorem dX3_alive_8 : decode cX3_alive 8 = .ok (.istore_n 2, 1) := by decide +kernel
theorem dX3_alive_9 : decode cX3_alive 9 = .ok (.iload_n 2, 1) := by decide +kernel
theorem dX3_alive_10 : decode cX3_alive 10 = .ok (.aload_n 0, 1) := by decide +kernel
theorem dX3_alive_11 : decode cX3_alive 11 = .ok (.getfield 93, 3) := by decide +kernel
theorem dX3_alive_14 : decode cX3_alive 14 = .ok (.if_icmp .gt 39, 3) := by decide +kernel
theorem dX3_alive_17 : decode cX3_alive 17 = .ok (.aload_n 0, 1) := by decide +kernel
theorem dX3_alive_18 : decode cX3_alive 18 = .ok (.getfield 211, 3) := by decide +kernel
theorem dX3_alive_21 : decode cX3_alive 21 = .ok (.bipush 31, 2) := by decide +kernel
theorem dX3_alive_23 : decode cX3_alive 23 = .ok (.iload_n 2, 1) := by decide +kernel
theorem dX3_alive_24 : decode cX3_alive 24 = .ok (.isub, 1) := by decide +kernel
theorem dX3_alive_25 : decode cX3_alive 25 = .ok (.ishr, 1) := by decide +kernel
theorem dX3_alive_26 : decode cX3_alive 26 = .ok (.bipush 31, 2) := by decide +kernel
theorem dX3_alive_28 : decode cX3_alive 28 = .ok (.iload_n 2, 1) := by decide +kernel
theorem dX3_alive_29 : decode cX3_alive 29 = .ok (.isub, 1) := by decide +kernel
theorem dX3_alive_30 : decode cX3_alive 30 = .ok (.ishl, 1) := by decide +kernel
theorem dX3_alive_31 : decode cX3_alive 31 = .ok (.istore_n 3, 1) := by decide +kernel
theorem dX3_alive_32 : decode cX3_alive 32 = .ok (.aload_n 0, 1) := by decide +kernel
theorem dX3_alive_33 : decode cX3_alive 33 = .ok (.iload_n 3, 1) := by decide +kernel
theorem dX3_alive_34 : decode cX3_alive 34 = .ok (.iload_n 2, 1) := by decide +kernel
theorem dX3_alive_35 : decode cX3_alive 35 = .ok (.invokevirtual 169, 3) := by decide +kernel
theorem dX3_alive_38 : decode cX3_alive 38 = .ok (.ifCond .eq 7, 3) := by decide +kernel
theorem dX3_alive_41 : decode cX3_alive 41 = .ok (.iload_n 2, 1) := by decide +kernel
theorem dX3_alive_42 : decode cX3_alive 42 = .ok (.goto 4, 3) := by decide +kernel
theorem dX3_alive_45 : decode cX3_alive 45 = .ok (.iload_n 1, 1) := by decide +kernel
theorem dX3_alive_46 : decode cX3_alive 46 = .ok (.istore_n 1, 1) := by decide +kernel
theorem dX3_alive_47 : decode cX3_alive 47 = .ok (.iinc 2 1, 3) := by decide +kernel
theorem dX3_alive_50 : decode cX3_alive 50 = .ok (.goto (-41), 3) := by decide +kernel
theorem dX3_alive_53 : decode cX3_alive 53 = .ok (.iload_n 1, 1) := by decide +kernel
theorem dX3_alive_54 : decode cX3_alive 54 = .ok (.ireturn, 1) := by decide +kernel
theorem dX3_spare_0 : decode cX3_spare 0 = .ok (.aload_n 0, 1) := by decide +kernel
theorem dX3_spare_1 : decode cX3_spare 1 = .ok (.iconst 0, 1) := by decide +kernel
theorem dX3_spare_2 : decode cX3_spare 2 = .ok (.putfield 103, 3) := by decide +kernel
theorem dX3_spare_5 : decode cX3_spare 5 = .ok (.aload_n 0, 1) := by decide +kernel
theorem dX3_spare_6 : decode cX3_spare 6 = .ok (.invokevirtual 181, 3) := by decide +kernel
theorem dX3_spare_9 : decode cX3_spare 9 = .ok (.aload_n 0, 1) := by decide +kernel
theorem dX3_spare_10 : decode cX3_spare 10 = .ok (.getfield 159, 3) := by decide +kernel
theorem dX3_spare_13 : decode cX3_spare 13 = .ok (.iconst 1, 1) := by decide +kernel
theorem dX3_spare_14 : decode cX3_spare 14 = .ok (.if_icmp .eq 9, 3) := by decide +kernel
theorem dX3_spare_17 : decode cX3_spare 17 = .ok (.aload_n 0, 1) := by decide +kernel
theorem dX3_spare_18 : decode cX3_spare 18 = .ok (.iconst 1, 1) := by decide +kernel
theorem dX3_spare_19 : decode cX3_spare 19 = .ok (.invokevirtual 214, 3) := by decide +kernel
theorem dX3_spare_22 : decode cX3_spare 22 = .ok (.ireturn, 1) := by decide +kernel
theorem dX3_spare_23 : decode cX3_spare 23 = .ok (.iconst 0, 1) := by decide +kernel
theorem dX3_spare_24 : decode cX3_spare 24 = .ok (.istore_n 1, 1) := by decide +kernel
theorem dX3_spare_25 : decode cX3_spare 25 = .ok (.iconst 0, 1) := by decide +kernel
theorem dX3_spare_26 : decode cX3_spare 26 = .ok (.istore_n 2, 1) := by decide +kernel
theorem dX3_spare_27 : decode cX3_spare 27 = .ok (.iload_n 2, 1) := by decide +kernel
theorem dX3_spare_28 : decode cX3_spare 28 = .ok (.aload_n 0, 1) := by decide +kernel
theorem dX3_spare_29 : decode cX3_spare 29 = .ok (.getfield 72, 3) := by decide +kernel
theorem dX3_spare_32 : decode cX3_spare 32 = .ok (.aload_n 0, 1) := by decide +kernel
theorem dX3_spare_33 : decode cX3_spare 33 = .ok (.getfield 76, 3) := by decide +kernel
theorem dX3_spare_36 : decode cX3_spare 36 = .ok (.imul, 1) := by decide +kernel
theorem dX3_spare_37 : decode cX3_spare 37 = .ok (.if_icmp .ge 59, 3) := by decide +kernel
theorem dX3_spare_40 : decode cX3_spare 40 = .ok (.aload_n 0, 1) := by decide +kernel
theorem dX3_spare_41 : decode cX3_spare 41 = .ok (.getfield 40, 3) := by decide +kernel
theorem dX3_spare_44 : decode cX3_spare 44 = .ok (.iload_n 2, 1) := by decide +kernel
theorem dX3_spare_45 : decode cX3_spare 45 = .ok (.iaload, 1) := by decide +kernel
theorem dX3_spare_46 : decode cX3_spare 46 = .ok (.istore_n 3, 1) := by decide +kernel
theorem dX3_spare_47 : decode cX3_spare 47 = .ok (.aload_n 0, 1) := by decide +kernel
theorem dX3_spare_48 : decode cX3_spare 48 = .ok (.getfield 40, 3) := by decide +kernel
theorem dX3_spare_51 : decode cX3_spare 51 = .ok (.iload_n 2, 1) := by decide +kernel
theorem dX3_spare_52 : decode cX3_spare 52 = .ok (.iconst (-1), 1) := by decide +kernel
theorem dX3_spare_53 : decode cX3_spare 53 = .ok (.iastore, 1) := by decide +kernel
theorem dX3_spare_54 : decode cX3_spare 54 = .ok (.aload_n 0, 1) := by decide +kernel
theorem dX3_spare_55 : decode cX3_spare 55 = .ok (.iconst 0, 1) := by decide +kernel
theorem dX3_spare_56 : decode cX3_spare 56 = .ok (.putfield 152, 3) := by decide +kernel
theorem dX3_spare_59 : decode cX3_spare 59 = .ok (.aload_n 0, 1) := by decide +kernel
theorem dX3_spare_60 : decode cX3_spare 60 = .ok (.invokevirtual 181, 3) := by decide +kernel
theorem dX3_spare_63 : decode cX3_spare 63 = .ok (.iload_n 3, 1) := by decide +kernel
theorem dX3_spare_64 : decode cX3_spare 64 = .ok (.ifCond .lt 26, 3) := by decide +kernel
theorem dX3_spare_67 : decode cX3_spare 67 = .ok (.aload_n 0, 1) := by decide +kernel
theorem dX3_spare_68 : decode cX3_spare 68 = .ok (.getfield 159, 3) := by decide +kernel
theorem dX3_spare_71 : decode cX3_spare 71 = .ok (.iconst 1, 1) := by decide +kernel
theorem dX3_spare_72 : decode cX3_spare 72 = .ok (.if_icmp .eq 18, 3) := by decide +kernel
theorem dX3_spare_75 : decode cX3_spare 75 = .ok (.aload_n 0, 1) := by decide +kernel
theorem dX3_spare_76 : decode cX3_spare 76 = .ok (.getfield 40, 3) := by decide +kernel
theorem dX3_spare_79 : decode cX3_spare 79 = .ok (.iload_n 2, 1) := by decide +kernel
theorem dX3_spare_80 : decode cX3_spare 80 = .ok (.iload_n 3, 1) := by decide +kernel
theorem dX3_spare_81 : decode cX3_spare 81 = .ok (.iastore, 1) := by decide +kernel
theorem dX3_spare_82 : decode cX3_spare 82 = .ok (.aload_n 0, 1) := by decide +kernel
theorem dX3_spare_83 : decode cX3_spare 83 = .ok (.iconst 0, 1) := by decide +kernel
theorem dX3_spare_84 : decode cX3_spare 84 = .ok (.putfield 152, 3) := by decide +kernel
theorem dX3_spare_87 : decode cX3_spare 87 = .ok (.iinc 1 1, 3) := by decide +kernel
theorem dX3_spare_90 : decode cX3_spare 90 = .ok (.iinc 2 1, 3) := by decide +kernel
theorem dX3_spare_93 : decode cX3_spare 93 = .ok (.goto (-66), 3) := by decide +kernel
theorem dX3_spare_96 : decode cX3_spare 96 = .ok (.iload_n 1, 1) := by decide +kernel
theorem dX3_spare_97 : decode cX3_spare 97 = .ok (.ireturn, 1) := by decide +kernel
