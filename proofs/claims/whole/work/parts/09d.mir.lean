/-! the reference, mirrored: tokens -/
theorem dX12_tokens_0 : decode cX12_tokens 0 = .ok (.aload_n 0, 1) := by decide +kernel
theorem dX12_tokens_1 : decode cX12_tokens 1 = .ok (.getfield 278, 3) := by decide +kernel
theorem dX12_tokens_4 : decode cX12_tokens 4 = .ok (.istore_n 1, 1) := by decide +kernel
theorem dX12_tokens_5 : decode cX12_tokens 5 = .ok (.iconst 0, 1) := by decide +kernel
theorem dX12_tokens_6 : decode cX12_tokens 6 = .ok (.istore_n 2, 1) := by decide +kernel
theorem dX12_tokens_7 : decode cX12_tokens 7 = .ok (.iconst 0, 1) := by decide +kernel
theorem dX12_tokens_8 : decode cX12_tokens 8 = .ok (.istore_n 3, 1) := by decide +kernel
theorem dX12_tokens_9 : decode cX12_tokens 9 = .ok (.iload_n 3, 1) := by decide +kernel
theorem dX12_tokens_10 : decode cX12_tokens 10 = .ok (.iload_n 1, 1) := by decide +kernel
theorem dX12_tokens_11 : decode cX12_tokens 11 = .ok (.if_icmp .ge 519, 3) := by decide +kernel
theorem dX12_tokens_14 : decode cX12_tokens 14 = .ok (.aload_n 0, 1) := by decide +kernel
theorem dX12_tokens_15 : decode cX12_tokens 15 = .ok (.getfield 13, 3) := by decide +kernel
theorem dX12_tokens_18 : decode cX12_tokens 18 = .ok (.iload_n 3, 1) := by decide +kernel
theorem dX12_tokens_19 : decode cX12_tokens 19 = .ok (.baload, 1) := by decide +kernel
theorem dX12_tokens_20 : decode cX12_tokens 20 = .ok (.istore 4, 2) := by decide +kernel
theorem dX12_tokens_22 : decode cX12_tokens 22 = .ok (.iload 4, 2) := by decide +kernel
theorem dX12_tokens_24 : decode cX12_tokens 24 = .ok (.bipush 32, 2) := by decide +kernel
theorem dX12_tokens_26 : decode cX12_tokens 26 = .ok (.if_icmp .eq 24, 3) := by decide +kernel
theorem dX12_tokens_29 : decode cX12_tokens 29 = .ok (.iload 4, 2) := by decide +kernel
theorem dX12_tokens_31 : decode cX12_tokens 31 = .ok (.bipush 9, 2) := by decide +kernel
theorem dX12_tokens_33 : decode cX12_tokens 33 = .ok (.if_icmp .eq 17, 3) := by decide +kernel
theorem dX12_tokens_36 : decode cX12_tokens 36 = .ok (.iload 4, 2) := by decide +kernel
theorem dX12_tokens_38 : decode cX12_tokens 38 = .ok (.bipush 13, 2) := by decide +kernel
theorem dX12_tokens_40 : decode cX12_tokens 40 = .ok (.if_icmp .eq 10, 3) := by decide +kernel
theorem dX12_tokens_43 : decode cX12_tokens 43 = .ok (.iload 4, 2) := by decide +kernel
theorem dX12_tokens_45 : decode cX12_tokens 45 = .ok (.bipush 10, 2) := by decide +kernel
theorem dX12_tokens_47 : decode cX12_tokens 47 = .ok (.if_icmp .ne 9, 3) := by decide +kernel
theorem dX12_tokens_50 : decode cX12_tokens 50 = .ok (.iinc 3 1, 3) := by decide +kernel
theorem dX12_tokens_53 : decode cX12_tokens 53 = .ok (.goto 474, 3) := by decide +kernel
theorem dX12_tokens_56 : decode cX12_tokens 56 = .ok (.iload_n 3, 1) := by decide +kernel
theorem dX12_tokens_57 : decode cX12_tokens 57 = .ok (.istore 5, 2) := by decide +kernel
theorem dX12_tokens_59 : decode cX12_tokens 59 = .ok (.aload_n 0, 1) := by decide +kernel
theorem dX12_tokens_60 : decode cX12_tokens 60 = .ok (.getfield 43, 3) := by decide +kernel
theorem dX12_tokens_63 : decode cX12_tokens 63 = .ok (.iload_n 2, 1) := by decide +kernel
theorem dX12_tokens_64 : decode cX12_tokens 64 = .ok (.iload_n 3, 1) := by decide +kernel
theorem dX12_tokens_65 : decode cX12_tokens 65 = .ok (.iastore, 1) := by decide +kernel
theorem dX12_tokens_66 : decode cX12_tokens 66 = .ok (.aload_n 0, 1) := by decide +kernel
theorem dX12_tokens_67 : decode cX12_tokens 67 = .ok (.getfield 49, 3) := by decide +kernel
theorem dX12_tokens_70 : decode cX12_tokens 70 = .ok (.iload_n 2, 1) := by decide +kernel
theorem dX12_tokens_71 : decode cX12_tokens 71 = .ok (.lconst 0, 1) := by decide +kernel
theorem dX12_tokens_72 : decode cX12_tokens 72 = .ok (.lastore, 1) := by decide +kernel
theorem dX12_tokens_73 : decode cX12_tokens 73 = .ok (.iload 4, 2) := by decide +kernel
theorem dX12_tokens_75 : decode cX12_tokens 75 = .ok (.invokestatic 281, 3) := by decide +kernel
theorem dX12_tokens_78 : decode cX12_tokens 78 = .ok (.ifCond .eq 61, 3) := by decide +kernel
theorem dX12_tokens_81 : decode cX12_tokens 81 = .ok (.iload_n 3, 1) := by decide +kernel
theorem dX12_tokens_82 : decode cX12_tokens 82 = .ok (.iload_n 1, 1) := by decide +kernel
theorem dX12_tokens_83 : decode cX12_tokens 83 = .ok (.if_icmp .ge 33, 3) := by decide +kernel
theorem dX12_tokens_86 : decode cX12_tokens 86 = .ok (.aload_n 0, 1) := by decide +kernel
theorem dX12_tokens_87 : decode cX12_tokens 87 = .ok (.getfield 13, 3) := by decide +kernel
theorem dX12_tokens_90 : decode cX12_tokens 90 = .ok (.iload_n 3, 1) := by decide +kernel
theorem dX12_tokens_91 : decode cX12_tokens 91 = .ok (.baload, 1) := by decide +kernel
theorem dX12_tokens_92 : decode cX12_tokens 92 = .ok (.invokestatic 281, 3) := by decide +kernel
theorem dX12_tokens_95 : decode cX12_tokens 95 = .ok (.ifCond .ne 15, 3) := by decide +kernel
theorem dX12_tokens_98 : decode cX12_tokens 98 = .ok (.aload_n 0, 1) := by decide +kernel
theorem dX12_tokens_99 : decode cX12_tokens 99 = .ok (.getfield 13, 3) := by decide +kernel
theorem dX12_tokens_102 : decode cX12_tokens 102 = .ok (.iload_n 3, 1) := by decide +kernel
theorem dX12_tokens_103 : decode cX12_tokens 103 = .ok (.baload, 1) := by decide +kernel
theorem dX12_tokens_104 : decode cX12_tokens 104 = .ok (.invokestatic 285, 3) := by decide +kernel
theorem dX12_tokens_107 : decode cX12_tokens 107 = .ok (.ifCond .eq 9, 3) := by decide +kernel
theorem dX12_tokens_110 : decode cX12_tokens 110 = .ok (.iinc 3 1, 3) := by decide +kernel
theorem dX12_tokens_113 : decode cX12_tokens 113 = .ok (.goto (-32), 3) := by decide +kernel
theorem dX12_tokens_116 : decode cX12_tokens 116 = .ok (.aload_n 0, 1) := by decide +kernel
theorem dX12_tokens_117 : decode cX12_tokens 117 = .ok (.getfield 40, 3) := by decide +kernel
theorem dX12_tokens_120 : decode cX12_tokens 120 = .ok (.iload_n 2, 1) := by decide +kernel
theorem dX12_tokens_121 : decode cX12_tokens 121 = .ok (.iload_n 3, 1) := by decide +kernel
theorem dX12_tokens_122 : decode cX12_tokens 122 = .ok (.iload 5, 2) := by decide +kernel
theorem dX12_tokens_124 : decode cX12_tokens 124 = .ok (.isub, 1) := by decide +kernel
theorem dX12_tokens_125 : decode cX12_tokens 125 = .ok (.bipush 12, 2) := by decide +kernel
theorem dX12_tokens_127 : decode cX12_tokens 127 = .ok (.if_icmp .le 7, 3) := by decide +kernel
theorem dX12_tokens_130 : decode cX12_tokens 130 = .ok (.iconst 3, 1) := by decide +kernel
theorem dX12_tokens_131 : decode cX12_tokens 131 = .ok (.goto 4, 3) := by decide +kernel
theorem dX12_tokens_134 : decode cX12_tokens 134 = .ok (.iconst 1, 1) := by decide +kernel
theorem dX12_tokens_135 : decode cX12_tokens 135 = .ok (.iastore, 1) := by decide +kernel
theorem dX12_tokens_136 : decode cX12_tokens 136 = .ok (.goto 378, 3) := by decide +kernel
theorem dX12_tokens_139 : decode cX12_tokens 139 = .ok (.iload 4, 2) := by decide +kernel
theorem dX12_tokens_141 : decode cX12_tokens 141 = .ok (.invokestatic 285, 3) := by decide +kernel
theorem dX12_tokens_144 : decode cX12_tokens 144 = .ok (.ifCond .eq 155, 3) := by decide +kernel
theorem dX12_tokens_147 : decode cX12_tokens 147 = .ok (.iconst 1, 1) := by decide +kernel
theorem dX12_tokens_148 : decode cX12_tokens 148 = .ok (.istore 6, 2) := by decide +kernel
theorem dX12_tokens_150 : decode cX12_tokens 150 = .ok (.iload_n 3, 1) := by decide +kernel
theorem dX12_tokens_151 : decode cX12_tokens 151 = .ok (.iload_n 1, 1) := by decide +kernel
theorem dX12_tokens_152 : decode cX12_tokens 152 = .ok (.if_icmp .ge 111, 3) := by decide +kernel
theorem dX12_tokens_155 : decode cX12_tokens 155 = .ok (.aload_n 0, 1) := by decide +kernel
theorem dX12_tokens_156 : decode cX12_tokens 156 = .ok (.getfield 13, 3) := by decide +kernel
theorem dX12_tokens_159 : decode cX12_tokens 159 = .ok (.iload_n 3, 1) := by decide +kernel
theorem dX12_tokens_160 : decode cX12_tokens 160 = .ok (.baload, 1) := by decide +kernel
theorem dX12_tokens_161 : decode cX12_tokens 161 = .ok (.invokestatic 285, 3) := by decide +kernel
theorem dX12_tokens_164 : decode cX12_tokens 164 = .ok (.ifCond .eq 99, 3) := by decide +kernel
theorem dX12_tokens_167 : decode cX12_tokens 167 = .ok (.aload_n 0, 1) := by decide +kernel
theorem dX12_tokens_168 : decode cX12_tokens 168 = .ok (.getfield 13, 3) := by decide +kernel
theorem dX12_tokens_171 : decode cX12_tokens 171 = .ok (.iload_n 3, 1) := by decide +kernel
theorem dX12_tokens_172 : decode cX12_tokens 172 = .ok (.baload, 1) := by decide +kernel
theorem dX12_tokens_173 : decode cX12_tokens 173 = .ok (.bipush 48, 2) := by decide +kernel
theorem dX12_tokens_175 : decode cX12_tokens 175 = .ok (.isub, 1) := by decide +kernel
theorem dX12_tokens_176 : decode cX12_tokens 176 = .ok (.istore 7, 2) := by decide +kernel
theorem dX12_tokens_178 : decode cX12_tokens 178 = .ok (.iload 6, 2) := by decide +kernel
theorem dX12_tokens_180 : decode cX12_tokens 180 = .ok (.ifCond .eq 40, 3) := by decide +kernel
theorem dX12_tokens_183 : decode cX12_tokens 183 = .ok (.aload_n 0, 1) := by decide +kernel
theorem dX12_tokens_184 : decode cX12_tokens 184 = .ok (.getfield 49, 3) := by decide +kernel
theorem dX12_tokens_187 : decode cX12_tokens 187 = .ok (.iload_n 2, 1) := by decide +kernel
theorem dX12_tokens_188 : decode cX12_tokens 188 = .ok (.laload, 1) := by decide +kernel
theorem dX12_tokens_189 : decode cX12_tokens 189 = .ok (.ldc2_w 288, 3) := by decide +kernel
theorem dX12_tokens_192 : decode cX12_tokens 192 = .ok (.lcmp, 1) := by decide +kernel
theorem dX12_tokens_193 : decode cX12_tokens 193 = .ok (.ifCond .lt 23, 3) := by decide +kernel
theorem dX12_tokens_196 : decode cX12_tokens 196 = .ok (.aload_n 0, 1) := by decide +kernel
theorem dX12_tokens_197 : decode cX12_tokens 197 = .ok (.getfield 49, 3) := by decide +kernel
theorem dX12_tokens_200 : decode cX12_tokens 200 = .ok (.iload_n 2, 1) := by decide +kernel
theorem dX12_tokens_201 : decode cX12_tokens 201 = .ok (.laload, 1) := by decide +kernel
theorem dX12_tokens_202 : decode cX12_tokens 202 = .ok (.ldc2_w 288, 3) := by decide +kernel
theorem dX12_tokens_205 : decode cX12_tokens 205 = .ok (.lcmp, 1) := by decide +kernel
theorem dX12_tokens_206 : decode cX12_tokens 206 = .ok (.ifCond .ne 14, 3) := by decide +kernel
theorem dX12_tokens_209 : decode cX12_tokens 209 = .ok (.iload 7, 2) := by decide +kernel
theorem dX12_tokens_211 : decode cX12_tokens 211 = .ok (.bipush 7, 2) := by decide +kernel
theorem dX12_tokens_213 : decode cX12_tokens 213 = .ok (.if_icmp .gt 7, 3) := by decide +kernel
theorem dX12_tokens_216 : decode cX12_tokens 216 = .ok (.iconst 1, 1) := by decide +kernel
theorem dX12_tokens_217 : decode cX12_tokens 217 = .ok (.goto 4, 3) := by decide +kernel
theorem dX12_tokens_220 : decode cX12_tokens 220 = .ok (.iconst 0, 1) := by decide +kernel
theorem dX12_tokens_221 : decode cX12_tokens 221 = .ok (.istore 6, 2) := by decide +kernel
theorem dX12_tokens_223 : decode cX12_tokens 223 = .ok (.aload_n 0, 1) := by decide +kernel
theorem dX12_tokens_224 : decode cX12_tokens 224 = .ok (.getfield 49, 3) := by decide +kernel
theorem dX12_tokens_227 : decode cX12_tokens 227 = .ok (.iload_n 2, 1) := by decide +kernel
theorem dX12_tokens_228 : decode cX12_tokens 228 = .ok (.iload 6, 2) := by decide +kernel
theorem dX12_tokens_230 : decode cX12_tokens 230 = .ok (.ifCond .eq 20, 3) := by decide +kernel
theorem dX12_tokens_233 : decode cX12_tokens 233 = .ok (.aload_n 0, 1) := by decide +kernel
theorem dX12_tokens_234 : decode cX12_tokens 234 = .ok (.getfield 49, 3) := by decide +kernel
theorem dX12_tokens_237 : decode cX12_tokens 237 = .ok (.iload_n 2, 1) := by decide +kernel
theorem dX12_tokens_238 : decode cX12_tokens 238 = .ok (.laload, 1) := by decide +kernel
theorem dX12_tokens_239 : decode cX12_tokens 239 = .ok (.ldc2_w 290, 3) := by decide +kernel
theorem dX12_tokens_242 : decode cX12_tokens 242 = .ok (.lmul, 1) := by decide +kernel
theorem dX12_tokens_243 : decode cX12_tokens 243 = .ok (.iload 7, 2) := by decide +kernel
theorem dX12_tokens_245 : decode cX12_tokens 245 = .ok (.i2l, 1) := by decide +kernel
theorem dX12_tokens_246 : decode cX12_tokens 246 = .ok (.ladd, 1) := by decide +kernel
theorem dX12_tokens_247 : decode cX12_tokens 247 = .ok (.goto 9, 3) := by decide +kernel
theorem dX12_tokens_250 : decode cX12_tokens 250 = .ok (.aload_n 0, 1) := by decide +kernel
theorem dX12_tokens_251 : decode cX12_tokens 251 = .ok (.getfield 49, 3) := by decide +kernel
theorem dX12_tokens_254 : decode cX12_tokens 254 = .ok (.iload_n 2, 1) := by decide +kernel
theorem dX12_tokens_255 : decode cX12_tokens 255 = .ok (.laload, 1) := by decide +kernel
theorem dX12_tokens_256 : decode cX12_tokens 256 = .ok (.lastore, 1) := by decide +kernel
theorem dX12_tokens_257 : decode cX12_tokens 257 = .ok (.iinc 3 1, 3) := by decide +kernel
theorem dX12_tokens_260 : decode cX12_tokens 260 = .ok (.goto (-110), 3) := by decide +kernel
theorem dX12_tokens_263 : decode cX12_tokens 263 = .ok (.aload_n 0, 1) := by decide +kernel
theorem dX12_tokens_264 : decode cX12_tokens 264 = .ok (.getfield 40, 3) := by decide +kernel
theorem dX12_tokens_267 : decode cX12_tokens 267 = .ok (.iload_n 2, 1) := by decide +kernel
theorem dX12_tokens_268 : decode cX12_tokens 268 = .ok (.iload 6, 2) := by decide +kernel
theorem dX12_tokens_270 : decode cX12_tokens 270 = .ok (.ifCond .eq 20, 3) := by decide +kernel
theorem dX12_tokens_273 : decode cX12_tokens 273 = .ok (.iload_n 3, 1) := by decide +kernel
theorem dX12_tokens_274 : decode cX12_tokens 274 = .ok (.iload_n 1, 1) := by decide +kernel
theorem dX12_tokens_275 : decode cX12_tokens 275 = .ok (.if_icmp .ge 19, 3) := by decide +kernel
theorem dX12_tokens_278 : decode cX12_tokens 278 = .ok (.aload_n 0, 1) := by decide +kernel
theorem dX12_tokens_279 : decode cX12_tokens 279 = .ok (.getfield 13, 3) := by decide +kernel
theorem dX12_tokens_282 : decode cX12_tokens 282 = .ok (.iload_n 3, 1) := by decide +kernel
theorem dX12_tokens_283 : decode cX12_tokens 283 = .ok (.baload, 1) := by decide +kernel
theorem dX12_tokens_284 : decode cX12_tokens 284 = .ok (.invokestatic 281, 3) := by decide +kernel
theorem dX12_tokens_287 : decode cX12_tokens 287 = .ok (.ifCond .eq 7, 3) := by decide +kernel
theorem dX12_tokens_290 : decode cX12_tokens 290 = .ok (.iconst 3, 1) := by decide +kernel
theorem dX12_tokens_291 : decode cX12_tokens 291 = .ok (.goto 4, 3) := by decide +kernel
theorem dX12_tokens_294 : decode cX12_tokens 294 = .ok (.iconst 2, 1) := by decide +kernel
theorem dX12_tokens_295 : decode cX12_tokens 295 = .ok (.iastore, 1) := by decide +kernel
theorem dX12_tokens_296 : decode cX12_tokens 296 = .ok (.goto 218, 3) := by decide +kernel
theorem dX12_tokens_299 : decode cX12_tokens 299 = .ok (.iload_n 3, 1) := by decide +kernel
theorem dX12_tokens_300 : decode cX12_tokens 300 = .ok (.iconst 1, 1) := by decide +kernel
theorem dX12_tokens_301 : decode cX12_tokens 301 = .ok (.iadd, 1) := by decide +kernel
theorem dX12_tokens_302 : decode cX12_tokens 302 = .ok (.iload_n 1, 1) := by decide +kernel
theorem dX12_tokens_303 : decode cX12_tokens 303 = .ok (.if_icmp .ge 14, 3) := by decide +kernel
theorem dX12_tokens_306 : decode cX12_tokens 306 = .ok (.aload_n 0, 1) := by decide +kernel
theorem dX12_tokens_307 : decode cX12_tokens 307 = .ok (.getfield 13, 3) := by decide +kernel
theorem dX12_tokens_310 : decode cX12_tokens 310 = .ok (.iload_n 3, 1) := by decide +kernel
theorem dX12_tokens_311 : decode cX12_tokens 311 = .ok (.iconst 1, 1) := by decide +kernel
theorem dX12_tokens_312 : decode cX12_tokens 312 = .ok (.iadd, 1) := by decide +kernel
theorem dX12_tokens_313 : decode cX12_tokens 313 = .ok (.baload, 1) := by decide +kernel
theorem dX12_tokens_314 : decode cX12_tokens 314 = .ok (.goto 4, 3) := by decide +kernel
theorem dX12_tokens_317 : decode cX12_tokens 317 = .ok (.iconst 0, 1) := by decide +kernel
theorem dX12_tokens_318 : decode cX12_tokens 318 = .ok (.istore 6, 2) := by decide +kernel
theorem dX12_tokens_320 : decode cX12_tokens 320 = .ok (.iload 4, 2) := by decide +kernel
theorem dX12_tokens_322 : decode cX12_tokens 322 = .ok (.bipush 60, 2) := by decide +kernel
theorem dX12_tokens_324 : decode cX12_tokens 324 = .ok (.if_icmp .ne 16, 3) := by decide +kernel
theorem dX12_tokens_327 : decode cX12_tokens 327 = .ok (.iload 6, 2) := by decide +kernel
theorem dX12_tokens_329 : decode cX12_tokens 329 = .ok (.bipush 62, 2) := by decide +kernel
theorem dX12_tokens_331 : decode cX12_tokens 331 = .ok (.if_icmp .ne 9, 3) := by decide +kernel
theorem dX12_tokens_334 : decode cX12_tokens 334 = .ok (.sipush 400, 3) := by decide +kernel
theorem dX12_tokens_337 : decode cX12_tokens 337 = .ok (.goto 44, 3) := by decide +kernel
theorem dX12_tokens_340 : decode cX12_tokens 340 = .ok (.iload 4, 2) := by decide +kernel
theorem dX12_tokens_342 : decode cX12_tokens 342 = .ok (.bipush 60, 2) := by decide +kernel
theorem dX12_tokens_344 : decode cX12_tokens 344 = .ok (.if_icmp .ne 16, 3) := by decide +kernel
theorem dX12_tokens_347 : decode cX12_tokens 347 = .ok (.iload 6, 2) := by decide +kernel
theorem dX12_tokens_349 : decode cX12_tokens 349 = .ok (.bipush 61, 2) := by decide +kernel
theorem dX12_tokens_351 : decode cX12_tokens 351 = .ok (.if_icmp .ne 9, 3) := by decide +kernel
theorem dX12_tokens_354 : decode cX12_tokens 354 = .ok (.sipush 401, 3) := by decide +kernel
theorem dX12_tokens_357 : decode cX12_tokens 357 = .ok (.goto 24, 3) := by decide +kernel
theorem dX12_tokens_360 : decode cX12_tokens 360 = .ok (.iload 4, 2) := by decide +kernel
theorem dX12_tokens_362 : decode cX12_tokens 362 = .ok (.bipush 62, 2) := by decide +kernel
theorem dX12_tokens_364 : decode cX12_tokens 364 = .ok (.if_icmp .ne 16, 3) := by decide +kernel
theorem dX12_tokens_367 : decode cX12_tokens 367 = .ok (.iload 6, 2) := by decide +kernel
theorem dX12_tokens_369 : decode cX12_tokens 369 = .ok (.bipush 61, 2) := by decide +kernel
theorem dX12_tokens_371 : decode cX12_tokens 371 = .ok (.if_icmp .ne 9, 3) := by decide +kernel
theorem dX12_tokens_374 : decode cX12_tokens 374 = .ok (.sipush 402, 3) := by decide +kernel
theorem dX12_tokens_377 : decode cX12_tokens 377 = .ok (.goto 4, 3) := by decide +kernel
theorem dX12_tokens_380 : decode cX12_tokens 380 = .ok (.iconst 0, 1) := by decide +kernel
theorem dX12_tokens_381 : decode cX12_tokens 381 = .ok (.istore 7, 2) := by decide +kernel
theorem dX12_tokens_383 : decode cX12_tokens 383 = .ok (.iload 4, 2) := by decide +kernel
theorem dX12_tokens_385 : decode cX12_tokens 385 = .ok (.bipush 40, 2) := by decide +kernel
theorem dX12_tokens_387 : decode cX12_tokens 387 = .ok (.if_icmp .eq 80, 3) := by decide +kernel
theorem dX12_tokens_390 : decode cX12_tokens 390 = .ok (.iload 4, 2) := by decide +kernel
theorem dX12_tokens_392 : decode cX12_tokens 392 = .ok (.bipush 41, 2) := by decide +kernel
theorem dX12_tokens_394 : decode cX12_tokens 394 = .ok (.if_icmp .eq 73, 3) := by decide +kernel
theorem dX12_tokens_397 : decode cX12_tokens 397 = .ok (.iload 4, 2) := by decide +kernel
theorem dX12_tokens_399 : decode cX12_tokens 399 = .ok (.bipush 44, 2) := by decide +kernel
theorem dX12_tokens_401 : decode cX12_tokens 401 = .ok (.if_icmp .eq 66, 3) := by decide +kernel
theorem dX12_tokens_404 : decode cX12_tokens 404 = .ok (.iload 4, 2) := by decide +kernel
theorem dX12_tokens_406 : decode cX12_tokens 406 = .ok (.bipush 46, 2) := by decide +kernel
theorem dX12_tokens_408 : decode cX12_tokens 408 = .ok (.if_icmp .eq 59, 3) := by decide +kernel
theorem dX12_tokens_411 : decode cX12_tokens 411 = .ok (.iload 4, 2) := by decide +kernel
theorem dX12_tokens_413 : decode cX12_tokens 413 = .ok (.bipush 43, 2) := by decide +kernel
theorem dX12_tokens_415 : decode cX12_tokens 415 = .ok (.if_icmp .eq 52, 3) := by decide +kernel
theorem dX12_tokens_418 : decode cX12_tokens 418 = .ok (.iload 4, 2) := by decide +kernel
theorem dX12_tokens_420 : decode cX12_tokens 420 = .ok (.bipush 45, 2) := by decide +kernel
theorem dX12_tokens_422 : decode cX12_tokens 422 = .ok (.if_icmp .eq 45, 3) := by decide +kernel
theorem dX12_tokens_425 : decode cX12_tokens 425 = .ok (.iload 4, 2) := by decide +kernel
theorem dX12_tokens_427 : decode cX12_tokens 427 = .ok (.bipush 42, 2) := by decide +kernel
theorem dX12_tokens_429 : decode cX12_tokens 429 = .ok (.if_icmp .eq 38, 3) := by decide +kernel
theorem dX12_tokens_432 : decode cX12_tokens 432 = .ok (.iload 4, 2) := by decide +kernel
theorem dX12_tokens_434 : decode cX12_tokens 434 = .ok (.bipush 47, 2) := by decide +kernel
theorem dX12_tokens_436 : decode cX12_tokens 436 = .ok (.if_icmp .eq 31, 3) := by decide +kernel
theorem dX12_tokens_439 : decode cX12_tokens 439 = .ok (.iload 4, 2) := by decide +kernel
theorem dX12_tokens_441 : decode cX12_tokens 441 = .ok (.bipush 37, 2) := by decide +kernel
theorem dX12_tokens_443 : decode cX12_tokens 443 = .ok (.if_icmp .eq 24, 3) := by decide +kernel
theorem dX12_tokens_446 : decode cX12_tokens 446 = .ok (.iload 4, 2) := by decide +kernel
theorem dX12_tokens_448 : decode cX12_tokens 448 = .ok (.bipush 61, 2) := by decide +kernel
theorem dX12_tokens_450 : decode cX12_tokens 450 = .ok (.if_icmp .eq 17, 3) := by decide +kernel
theorem dX12_tokens_453 : decode cX12_tokens 453 = .ok (.iload 4, 2) := by decide +kernel
theorem dX12_tokens_455 : decode cX12_tokens 455 = .ok (.bipush 60, 2) := by decide +kernel
theorem dX12_tokens_457 : decode cX12_tokens 457 = .ok (.if_icmp .eq 10, 3) := by decide +kernel
theorem dX12_tokens_460 : decode cX12_tokens 460 = .ok (.iload 4, 2) := by decide +kernel
theorem dX12_tokens_462 : decode cX12_tokens 462 = .ok (.bipush 62, 2) := by decide +kernel
theorem dX12_tokens_464 : decode cX12_tokens 464 = .ok (.if_icmp .ne 7, 3) := by decide +kernel
theorem dX12_tokens_467 : decode cX12_tokens 467 = .ok (.iconst 1, 1) := by decide +kernel
theorem dX12_tokens_468 : decode cX12_tokens 468 = .ok (.goto 4, 3) := by decide +kernel
theorem dX12_tokens_471 : decode cX12_tokens 471 = .ok (.iconst 0, 1) := by decide +kernel
theorem dX12_tokens_472 : decode cX12_tokens 472 = .ok (.istore 8, 2) := by decide +kernel
theorem dX12_tokens_474 : decode cX12_tokens 474 = .ok (.aload_n 0, 1) := by decide +kernel
theorem dX12_tokens_475 : decode cX12_tokens 475 = .ok (.getfield 40, 3) := by decide +kernel
theorem dX12_tokens_478 : decode cX12_tokens 478 = .ok (.iload_n 2, 1) := by decide +kernel
theorem dX12_tokens_479 : decode cX12_tokens 479 = .ok (.iload 7, 2) := by decide +kernel
theorem dX12_tokens_481 : decode cX12_tokens 481 = .ok (.ifCond .eq 8, 3) := by decide +kernel
theorem dX12_tokens_484 : decode cX12_tokens 484 = .ok (.iload 7, 2) := by decide +kernel
theorem dX12_tokens_486 : decode cX12_tokens 486 = .ok (.goto 14, 3) := by decide +kernel
theorem dX12_tokens_489 : decode cX12_tokens 489 = .ok (.iload 8, 2) := by decide +kernel
theorem dX12_tokens_491 : decode cX12_tokens 491 = .ok (.ifCond .eq 8, 3) := by decide +kernel
theorem dX12_tokens_494 : decode cX12_tokens 494 = .ok (.iload 4, 2) := by decide +kernel
theorem dX12_tokens_496 : decode cX12_tokens 496 = .ok (.goto 4, 3) := by decide +kernel
theorem dX12_tokens_499 : decode cX12_tokens 499 = .ok (.iconst 3, 1) := by decide +kernel
theorem dX12_tokens_500 : decode cX12_tokens 500 = .ok (.iastore, 1) := by decide +kernel
theorem dX12_tokens_501 : decode cX12_tokens 501 = .ok (.iload_n 3, 1) := by decide +kernel
theorem dX12_tokens_502 : decode cX12_tokens 502 = .ok (.iload 7, 2) := by decide +kernel
theorem dX12_tokens_504 : decode cX12_tokens 504 = .ok (.ifCond .eq 7, 3) := by decide +kernel
theorem dX12_tokens_507 : decode cX12_tokens 507 = .ok (.iconst 2, 1) := by decide +kernel
theorem dX12_tokens_508 : decode cX12_tokens 508 = .ok (.goto 4, 3) := by decide +kernel
theorem dX12_tokens_511 : decode cX12_tokens 511 = .ok (.iconst 1, 1) := by decide +kernel
theorem dX12_tokens_512 : decode cX12_tokens 512 = .ok (.iadd, 1) := by decide +kernel
theorem dX12_tokens_513 : decode cX12_tokens 513 = .ok (.istore_n 3, 1) := by decide +kernel
theorem dX12_tokens_514 : decode cX12_tokens 514 = .ok (.aload_n 0, 1) := by decide +kernel
theorem dX12_tokens_515 : decode cX12_tokens 515 = .ok (.getfield 46, 3) := by decide +kernel
theorem dX12_tokens_518 : decode cX12_tokens 518 = .ok (.iload_n 2, 1) := by decide +kernel
theorem dX12_tokens_519 : decode cX12_tokens 519 = .ok (.iload_n 3, 1) := by decide +kernel
theorem dX12_tokens_520 : decode cX12_tokens 520 = .ok (.iload 5, 2) := by decide +kernel
theorem dX12_tokens_522 : decode cX12_tokens 522 = .ok (.isub, 1) := by decide +kernel
theorem dX12_tokens_523 : decode cX12_tokens 523 = .ok (.iastore, 1) := by decide +kernel
theorem dX12_tokens_524 : decode cX12_tokens 524 = .ok (.iinc 2 1, 3) := by decide +kernel
theorem dX12_tokens_527 : decode cX12_tokens 527 = .ok (.goto (-518), 3) := by decide +kernel
theorem dX12_tokens_530 : decode cX12_tokens 530 = .ok (.aload_n 0, 1) := by decide +kernel
theorem dX12_tokens_531 : decode cX12_tokens 531 = .ok (.getfield 40, 3) := by decide +kernel
theorem dX12_tokens_534 : decode cX12_tokens 534 = .ok (.iload_n 2, 1) := by decide +kernel
theorem dX12_tokens_535 : decode cX12_tokens 535 = .ok (.iconst 0, 1) := by decide +kernel
theorem dX12_tokens_536 : decode cX12_tokens 536 = .ok (.iastore, 1) := by decide +kernel
theorem dX12_tokens_537 : decode cX12_tokens 537 = .ok (.aload_n 0, 1) := by decide +kernel
theorem dX12_tokens_538 : decode cX12_tokens 538 = .ok (.getfield 43, 3) := by decide +kernel
theorem dX12_tokens_541 : decode cX12_tokens 541 = .ok (.iload_n 2, 1) := by decide +kernel
theorem dX12_tokens_542 : decode cX12_tokens 542 = .ok (.iload_n 1, 1) := by decide +kernel
theorem dX12_tokens_543 : decode cX12_tokens 543 = .ok (.iastore, 1) := by decide +kernel
theorem dX12_tokens_544 : decode cX12_tokens 544 = .ok (.aload_n 0, 1) := by decide +kernel
theorem dX12_tokens_545 : decode cX12_tokens 545 = .ok (.getfield 46, 3) := by decide +kernel
theorem dX12_tokens_548 : decode cX12_tokens 548 = .ok (.iload_n 2, 1) := by decide +kernel
theorem dX12_tokens_549 : decode cX12_tokens 549 = .ok (.iconst 0, 1) := by decide +kernel
theorem dX12_tokens_550 : decode cX12_tokens 550 = .ok (.iastore, 1) := by decide +kernel
theorem dX12_tokens_551 : decode cX12_tokens 551 = .ok (.return_, 1) := by decide +kernel
def m_tokens_b527 (F : Nat) (rc9 : RS → Int32 → Int32 → Int32 → Option RS) (cs1 : RS) (u1 : Int32) (u2 : Int32) (u3 : Int32) : Option RS := rc9 cs1 u1 u2 u3
def m_tokens_b50 (F : Nat) (rc9 : RS → Int32 → Int32 → Int32 → Option RS) (cs1 : RS) (u1 : Int32) (u2 : Int32) (u3 : Int32) : Option RS := m_tokens_b527 F rc9 cs1 u1 u2 (u3 + 1)
def m_tokens_b514 (F : Nat) (rc9 : RS → Int32 → Int32 → Int32 → Option RS) (cs1 : RS) (u1 : Int32) (u2 : Int32) (u3 : Int32) (u5 : Int32) : Option RS := Option.bind (wrI cs1 16 2001 u2 (u3 - u5)) fun cs_1 => m_tokens_b527 F rc9 cs_1 u1 (u2 + 1) u3
def m_tokens_b135 (F : Nat) (rc9 : RS → Int32 → Int32 → Int32 → Option RS) (cs1 : RS) (u1 : Int32) (u2 : Int32) (u3 : Int32) (u5 : Int32) (y0 : Int32) (y1 : Int32) : Option RS := Option.bind (wrI cs1 14 2001 y1 y0) fun cs_2 => m_tokens_b514 F rc9 cs_2 u1 u2 u3 u5
def m_tokens_b116 (F : Nat) (rc9 : RS → Int32 → Int32 → Int32 → Option RS) (cs1 : RS) (u1 : Int32) (u2 : Int32) (u3 : Int32) (u5 : Int32) : Option RS := if (u3 - u5) ≤ 12 then (m_tokens_b135 F rc9 cs1 u1 u2 u3 u5 1 u2) else (m_tokens_b135 F rc9 cs1 u1 u2 u3 u5 3 u2)
def m_tokens_b110 (F : Nat) (rc9 : RS → Int32 → Int32 → Int32 → Option RS) (rc81 : RS → Int32 → Int32 → Int32 → Int32 → Option RS) (cs1 : RS) (u1 : Int32) (u2 : Int32) (u3 : Int32) (u5 : Int32) : Option RS := rc81 cs1 u1 u2 (u3 + 1) u5
def m_tokens_L81 (F : Nat) (rc9 : RS → Int32 → Int32 → Int32 → Option RS) : Nat → RS → Int32 → Int32 → Int32 → Int32 → Option RS
  | 0, _, _, _, _, _ => none
  | lf_81 + 1, cs1, u1, u2, u3, u5 => if u1 ≤ u3 then (m_tokens_b116 F rc9 cs1 u1 u2 u3 u5) else (Option.bind (rdI (cs1.2.2.1 2) 2000 u3) fun v_5 => Option.bind (m_isLetter F cs1 v_5) fun v_6 => if v_6 = 0 then (Option.bind (rdI (cs1.2.2.1 2) 2000 u3) fun v_8 => Option.bind (m_isDigit F cs1 v_8) fun v_9 => if v_9 = 0 then (m_tokens_b116 F rc9 cs1 u1 u2 u3 u5) else (m_tokens_b110 F rc9 (m_tokens_L81 F rc9 lf_81) cs1 u1 u2 u3 u5)) else (m_tokens_b110 F rc9 (m_tokens_L81 F rc9 lf_81) cs1 u1 u2 u3 u5))
def m_tokens_b295 (F : Nat) (rc9 : RS → Int32 → Int32 → Int32 → Option RS) (cs1 : RS) (u1 : Int32) (u2 : Int32) (u3 : Int32) (u5 : Int32) (y0 : Int32) (y1 : Int32) : Option RS := Option.bind (wrI cs1 14 2001 y1 y0) fun cs_11 => m_tokens_b514 F rc9 cs_11 u1 u2 u3 u5
def m_tokens_b290 (F : Nat) (rc9 : RS → Int32 → Int32 → Int32 → Option RS) (cs1 : RS) (u1 : Int32) (u2 : Int32) (u3 : Int32) (u5 : Int32) (y0 : Int32) : Option RS := m_tokens_b295 F rc9 cs1 u1 u2 u3 u5 3 y0
def m_tokens_b294 (F : Nat) (rc9 : RS → Int32 → Int32 → Int32 → Option RS) (cs1 : RS) (u1 : Int32) (u2 : Int32) (u3 : Int32) (u5 : Int32) (y0 : Int32) : Option RS := m_tokens_b295 F rc9 cs1 u1 u2 u3 u5 2 y0
def m_tokens_b263 (F : Nat) (rc9 : RS → Int32 → Int32 → Int32 → Option RS) (cs1 : RS) (u1 : Int32) (u2 : Int32) (u3 : Int32) (u5 : Int32) (u6 : Int32) : Option RS := if u6 = 0 then (m_tokens_b290 F rc9 cs1 u1 u2 u3 u5 u2) else (if u1 ≤ u3 then (m_tokens_b294 F rc9 cs1 u1 u2 u3 u5 u2) else (Option.bind (rdI (cs1.2.2.1 2) 2000 u3) fun v_14 => Option.bind (m_isLetter F cs1 v_14) fun v_15 => if v_15 = 0 then (m_tokens_b294 F rc9 cs1 u1 u2 u3 u5 u2) else (m_tokens_b290 F rc9 cs1 u1 u2 u3 u5 u2)))
def m_tokens_b256 (F : Nat) (rc9 : RS → Int32 → Int32 → Int32 → Option RS) (rc150 : RS → Int32 → Int32 → Int32 → Int32 → Int32 → Option RS) (cs1 : RS) (u1 : Int32) (u2 : Int32) (u3 : Int32) (u5 : Int32) (u6 : Int32) (y0 : Int64) (y1 : Int32) : Option RS := Option.bind (wrL cs1 17 2001 y1 y0) fun cs_17 => rc150 cs_17 u1 u2 (u3 + 1) u5 u6
def m_tokens_b221 (F : Nat) (rc9 : RS → Int32 → Int32 → Int32 → Option RS) (rc150 : RS → Int32 → Int32 → Int32 → Int32 → Int32 → Option RS) (cs1 : RS) (u1 : Int32) (u2 : Int32) (u3 : Int32) (u5 : Int32) (u7 : Int32) (y0 : Int32) : Option RS := if y0 = 0 then (Option.bind (rdL (cs1.2.2.2 17) 2001 u2) fun v_19 => m_tokens_b256 F rc9 rc150 cs1 u1 u2 u3 u5 y0 v_19 u2) else (Option.bind (rdL (cs1.2.2.2 17) 2001 u2) fun v_20 => m_tokens_b256 F rc9 rc150 cs1 u1 u2 u3 u5 y0 ((v_20 * (10)) + ((u7 : Int32).toInt64)) u2)
def m_tokens_b216 (F : Nat) (rc9 : RS → Int32 → Int32 → Int32 → Option RS) (rc150 : RS → Int32 → Int32 → Int32 → Int32 → Int32 → Option RS) (cs1 : RS) (u1 : Int32) (u2 : Int32) (u3 : Int32) (u5 : Int32) (u7 : Int32) : Option RS := m_tokens_b221 F rc9 rc150 cs1 u1 u2 u3 u5 u7 1
def m_tokens_b220 (F : Nat) (rc9 : RS → Int32 → Int32 → Int32 → Option RS) (rc150 : RS → Int32 → Int32 → Int32 → Int32 → Int32 → Option RS) (cs1 : RS) (u1 : Int32) (u2 : Int32) (u3 : Int32) (u5 : Int32) (u7 : Int32) : Option RS := m_tokens_b221 F rc9 rc150 cs1 u1 u2 u3 u5 u7 0
def m_tokens_L150 (F : Nat) (rc9 : RS → Int32 → Int32 → Int32 → Option RS) : Nat → RS → Int32 → Int32 → Int32 → Int32 → Int32 → Option RS
  | 0, _, _, _, _, _, _ => none
  | lf_150 + 1, cs1, u1, u2, u3, u5, u6 => if u1 ≤ u3 then (m_tokens_b263 F rc9 cs1 u1 u2 u3 u5 u6) else (Option.bind (rdI (cs1.2.2.1 2) 2000 u3) fun v_22 => Option.bind (m_isDigit F cs1 v_22) fun v_23 => if v_23 = 0 then (m_tokens_b263 F rc9 cs1 u1 u2 u3 u5 u6) else (Option.bind (rdI (cs1.2.2.1 2) 2000 u3) fun v_25 => if u6 = 0 then (m_tokens_b220 F rc9 (m_tokens_L150 F rc9 lf_150) cs1 u1 u2 u3 u5 (v_25 - 48)) else (Option.bind (rdL (cs1.2.2.2 17) 2001 u2) fun v_27 => if v_27 < (922337203685477580) then (m_tokens_b216 F rc9 (m_tokens_L150 F rc9 lf_150) cs1 u1 u2 u3 u5 (v_25 - 48)) else (Option.bind (rdL (cs1.2.2.2 17) 2001 u2) fun v_29 => if v_29 = (922337203685477580) then (if 7 < (v_25 - 48) then (m_tokens_b220 F rc9 (m_tokens_L150 F rc9 lf_150) cs1 u1 u2 u3 u5 (v_25 - 48)) else (m_tokens_b216 F rc9 (m_tokens_L150 F rc9 lf_150) cs1 u1 u2 u3 u5 (v_25 - 48))) else (m_tokens_b220 F rc9 (m_tokens_L150 F rc9 lf_150) cs1 u1 u2 u3 u5 (v_25 - 48))))))
def m_tokens_b512 (F : Nat) (rc9 : RS → Int32 → Int32 → Int32 → Option RS) (cs1 : RS) (u1 : Int32) (u2 : Int32) (u5 : Int32) (y0 : Int32) (y1 : Int32) : Option RS := m_tokens_b514 F rc9 cs1 u1 u2 (y1 + y0) u5
def m_tokens_b500 (F : Nat) (rc9 : RS → Int32 → Int32 → Int32 → Option RS) (cs1 : RS) (u1 : Int32) (u2 : Int32) (u3 : Int32) (u5 : Int32) (u7 : Int32) (y0 : Int32) (y1 : Int32) : Option RS := Option.bind (wrI cs1 14 2001 y1 y0) fun cs_32 => if u7 = 0 then (m_tokens_b512 F rc9 cs_32 u1 u2 u5 1 u3) else (m_tokens_b512 F rc9 cs_32 u1 u2 u5 2 u3)
def m_tokens_b472 (F : Nat) (rc9 : RS → Int32 → Int32 → Int32 → Option RS) (cs1 : RS) (u1 : Int32) (u2 : Int32) (u3 : Int32) (u4 : Int32) (u5 : Int32) (u7 : Int32) (y0 : Int32) : Option RS := if u7 = 0 then (if y0 = 0 then (m_tokens_b500 F rc9 cs1 u1 u2 u3 u5 u7 3 u2) else (m_tokens_b500 F rc9 cs1 u1 u2 u3 u5 u7 u4 u2)) else (m_tokens_b500 F rc9 cs1 u1 u2 u3 u5 u7 u7 u2)
def m_tokens_b467 (F : Nat) (rc9 : RS → Int32 → Int32 → Int32 → Option RS) (cs1 : RS) (u1 : Int32) (u2 : Int32) (u3 : Int32) (u4 : Int32) (u5 : Int32) (u7 : Int32) : Option RS := m_tokens_b472 F rc9 cs1 u1 u2 u3 u4 u5 u7 1
def m_tokens_b381 (F : Nat) (rc9 : RS → Int32 → Int32 → Int32 → Option RS) (cs1 : RS) (u1 : Int32) (u2 : Int32) (u3 : Int32) (u4 : Int32) (u5 : Int32) (y0 : Int32) : Option RS := if u4 = 40 then (m_tokens_b467 F rc9 cs1 u1 u2 u3 u4 u5 y0) else (if u4 = 41 then (m_tokens_b467 F rc9 cs1 u1 u2 u3 u4 u5 y0) else (if u4 = 44 then (m_tokens_b467 F rc9 cs1 u1 u2 u3 u4 u5 y0) else (if u4 = 46 then (m_tokens_b467 F rc9 cs1 u1 u2 u3 u4 u5 y0) else (if u4 = 43 then (m_tokens_b467 F rc9 cs1 u1 u2 u3 u4 u5 y0) else (if u4 = 45 then (m_tokens_b467 F rc9 cs1 u1 u2 u3 u4 u5 y0) else (if u4 = 42 then (m_tokens_b467 F rc9 cs1 u1 u2 u3 u4 u5 y0) else (if u4 = 47 then (m_tokens_b467 F rc9 cs1 u1 u2 u3 u4 u5 y0) else (if u4 = 37 then (m_tokens_b467 F rc9 cs1 u1 u2 u3 u4 u5 y0) else (if u4 = 61 then (m_tokens_b467 F rc9 cs1 u1 u2 u3 u4 u5 y0) else (if u4 = 60 then (m_tokens_b467 F rc9 cs1 u1 u2 u3 u4 u5 y0) else (if u4 = 62 then (m_tokens_b467 F rc9 cs1 u1 u2 u3 u4 u5 y0) else (m_tokens_b472 F rc9 cs1 u1 u2 u3 u4 u5 y0 0))))))))))))
def m_tokens_b380 (F : Nat) (rc9 : RS → Int32 → Int32 → Int32 → Option RS) (cs1 : RS) (u1 : Int32) (u2 : Int32) (u3 : Int32) (u4 : Int32) (u5 : Int32) : Option RS := m_tokens_b381 F rc9 cs1 u1 u2 u3 u4 u5 0
def m_tokens_b360 (F : Nat) (rc9 : RS → Int32 → Int32 → Int32 → Option RS) (cs1 : RS) (u1 : Int32) (u2 : Int32) (u3 : Int32) (u4 : Int32) (u5 : Int32) (u6 : Int32) : Option RS := if u4 = 62 then (if u6 = 61 then (m_tokens_b381 F rc9 cs1 u1 u2 u3 u4 u5 402) else (m_tokens_b380 F rc9 cs1 u1 u2 u3 u4 u5)) else (m_tokens_b380 F rc9 cs1 u1 u2 u3 u4 u5)
def m_tokens_b340 (F : Nat) (rc9 : RS → Int32 → Int32 → Int32 → Option RS) (cs1 : RS) (u1 : Int32) (u2 : Int32) (u3 : Int32) (u4 : Int32) (u5 : Int32) (u6 : Int32) : Option RS := if u4 = 60 then (if u6 = 61 then (m_tokens_b381 F rc9 cs1 u1 u2 u3 u4 u5 401) else (m_tokens_b360 F rc9 cs1 u1 u2 u3 u4 u5 u6)) else (m_tokens_b360 F rc9 cs1 u1 u2 u3 u4 u5 u6)
def m_tokens_b318 (F : Nat) (rc9 : RS → Int32 → Int32 → Int32 → Option RS) (cs1 : RS) (u1 : Int32) (u2 : Int32) (u3 : Int32) (u4 : Int32) (u5 : Int32) (y0 : Int32) : Option RS := if u4 = 60 then (if y0 = 62 then (m_tokens_b381 F rc9 cs1 u1 u2 u3 u4 u5 400) else (m_tokens_b340 F rc9 cs1 u1 u2 u3 u4 u5 y0)) else (m_tokens_b340 F rc9 cs1 u1 u2 u3 u4 u5 y0)
def m_tokens_L9 (F : Nat) : Nat → RS → Int32 → Int32 → Int32 → Option RS
  | 0, _, _, _, _ => none
  | lf_9 + 1, cs1, u1, u2, u3 => if u1 ≤ u3 then (Option.bind (wrI cs1 14 2001 u2 0) fun cs_55 => Option.bind (wrI cs_55 15 2001 u2 u1) fun cs_56 => Option.bind (wrI cs_56 16 2001 u2 0) fun cs_57 => some cs_57) else (Option.bind (rdI (cs1.2.2.1 2) 2000 u3) fun v_58 => if v_58 = 32 then (m_tokens_b50 F (m_tokens_L9 F lf_9) cs1 u1 u2 u3) else (if v_58 = 9 then (m_tokens_b50 F (m_tokens_L9 F lf_9) cs1 u1 u2 u3) else (if v_58 = 13 then (m_tokens_b50 F (m_tokens_L9 F lf_9) cs1 u1 u2 u3) else (if v_58 = 10 then (m_tokens_b50 F (m_tokens_L9 F lf_9) cs1 u1 u2 u3) else (Option.bind (wrI cs1 15 2001 u2 u3) fun cs_63 => Option.bind (wrL cs_63 17 2001 u2 0) fun cs_64 => Option.bind (m_isLetter F cs_64 v_58) fun v_65 => if v_65 = 0 then (Option.bind (m_isDigit F cs_64 v_58) fun v_67 => if v_67 = 0 then (if u1 ≤ (u3 + 1) then (m_tokens_b318 F (m_tokens_L9 F lf_9) cs_64 u1 u2 u3 v_58 u3 0) else (Option.bind (rdI (cs_64.2.2.1 2) 2000 (u3 + 1)) fun v_70 => m_tokens_b318 F (m_tokens_L9 F lf_9) cs_64 u1 u2 u3 v_58 u3 v_70)) else (m_tokens_L150 F (m_tokens_L9 F lf_9) F cs_64 u1 u2 u3 u3 1)) else (m_tokens_L81 F (m_tokens_L9 F lf_9) F cs_64 u1 u2 u3 u3))))))
def m_tokens (F : Nat) (cs : RS) : Option RS := m_tokens_L9 F F cs (cs.1 3) 0 0
set_option maxHeartbeats 4000000 in
set_option maxRecDepth 100000 in
theorem s_tokens (l : Launch) (dC : Nat → ClassId) (dI : Nat → Nat → Nat) (cB cI cJ cZ : ClassId) (h0 : Nat) (a : Nat → Nat) (K V : Nat → Nat) (fz : Value) (F : Nat) (cs : RS) (cs9 : RS) (hf : m_tokens F cs = some cs9) : okV l dC dI cB cI cJ cZ h0 a K V fz yX12_tokens (wsOf yX12_tokens cX12_tokens 9 none) (1) [.ref h0] cs cs9 := by
  intro sz
  refine Met.ofW (cc := cX12_tokens) (maxL := 9) (ret := none) (by decide) rfl ?_
  intro p e s m args below meth c s₁ B hml hv
  obtain ⟨rfl, hsz, hP, hK, hD0, hZ⟩ := hv
  have hx := B.exec
  have hb := B.bytes
  have hr := B.returns
  have hts := atoms_spec (ws := (wsOf yX12_tokens cX12_tokens 9 none)) B.pre
  have hown : s.vm.findClass RX12 = some m.cls := findClass_of_methodNamed B.named
  have hlocks := B.notSynchronized
  subst hsz
  have hD := hD0.self (sz := s.heap.size)
  generalize hAe : va_A (mW cB cI cJ cZ h0 a cs) s.heap.size = A at hD hZ ⊢
  have hA : ∀ q : Nat, s.heap.size ≤ q → A q := fun q h => by rw [← hAe]; exact Or.inr h
  have hS : va_S A s.heap s.heap [] := va_S.rf
  have hl := lv_entry ([.ref h0]) (n := 9) (Nat.le_of_ble_eq_true rfl)
  rw [lg_entry_eq]
  generalize (lg_sl ([.ref h0]) ++ List.replicate (9 - (lg_sl ([.ref h0])).length) Slot.unset).toArray = ls at hl ⊢
  have hl : lv_has ls 9 [(0, .ref h0)] := hl
  have L_9 : ∀ (lf_9 : Nat), ∀ (cs1 : RS) (u1 : Int32) (u2 : Int32) (u3 : Int32), m_tokens_L9 F lf_9 cs1 u1 u2 u3 = some cs9 → ∀ (H : Heap) (locs : List Loc) (ls : Array Slot), va_P (dC, dI) vwCl (mW cB cI cJ cZ h0 a cs1) H → va_D A (mW cB cI cJ cZ h0 a cs1) → va_S A s.heap H locs → lv_has ls 9 [(0, .ref h0), (1, .int u1), (2, .int u2), (3, .int u3)] → W p l e (headSpec (wsOf yX12_tokens cX12_tokens 9 none) ({ frames := 1, cells := 0, slots := 0, locals := 60 * (1) } : Room)).room s m ([.ref h0] : List Value).toArray below meth c H locs 0 0 (MQ below (va_Qv (fun (_ : Unit) => True) (fun _ t_ => va_P (dC, dI) vwCl (mW cB cI cJ cZ h0 a cs9) t_.heap ∧ va_D A (mW cB cI cJ cZ h0 a cs9)) A) ([.ref h0] : List Value).toArray s 0 0 A) (F0 m 9 ls []) := by
    intro lf_9
    induction lf_9 with
    | zero => intro cs1 u1 u2 u3 h; cases (show (none : Option RS) = _ from h)
    | succ lf_9 ih_9 =>
      have B_527 : ∀ (cs1 : RS) (u1 : Int32) (u2 : Int32) (u3 : Int32), m_tokens_b527 F (m_tokens_L9 F lf_9) cs1 u1 u2 u3 = some cs9 → ∀ (H : Heap) (locs : List Loc) (ls : Array Slot), va_P (dC, dI) vwCl (mW cB cI cJ cZ h0 a cs1) H → va_D A (mW cB cI cJ cZ h0 a cs1) → va_S A s.heap H locs → lv_has ls 9 [(0, .ref h0), (1, .int u1), (2, .int u2), (3, .int u3)] → W p l e (headSpec (wsOf yX12_tokens cX12_tokens 9 none) ({ frames := 1, cells := 0, slots := 0, locals := 60 * (1) } : Room)).room s m ([.ref h0] : List Value).toArray below meth c H locs 0 0 (MQ below (va_Qv (fun (_ : Unit) => True) (fun _ t_ => va_P (dC, dI) vwCl (mW cB cI cJ cZ h0 a cs9) t_.heap ∧ va_D A (mW cB cI cJ cZ h0 a cs9)) A) ([.ref h0] : List Value).toArray s 0 0 A) (F0 m 527 ls []) := by
        intro cs1 u1 u2 u3 h H locs ls hP hD hS hl
        unfold m_tokens_b527 at h
        refine lv_goto (tgt := 9) hx hb dX12_tokens_527 (by decide) ?_
        exact ih_9 cs1 u1 u2 u3 h _ _ _ hP hD hS (lv_sub hl [0, 1, 2, 3] rfl)
      have B_50 : ∀ (cs1 : RS) (u1 : Int32) (u2 : Int32) (u3 : Int32), m_tokens_b50 F (m_tokens_L9 F lf_9) cs1 u1 u2 u3 = some cs9 → ∀ (H : Heap) (locs : List Loc) (ls : Array Slot), va_P (dC, dI) vwCl (mW cB cI cJ cZ h0 a cs1) H → va_D A (mW cB cI cJ cZ h0 a cs1) → va_S A s.heap H locs → lv_has ls 9 [(0, .ref h0), (1, .int u1), (2, .int u2), (3, .int u3)] → W p l e (headSpec (wsOf yX12_tokens cX12_tokens 9 none) ({ frames := 1, cells := 0, slots := 0, locals := 60 * (1) } : Room)).room s m ([.ref h0] : List Value).toArray below meth c H locs 0 0 (MQ below (va_Qv (fun (_ : Unit) => True) (fun _ t_ => va_P (dC, dI) vwCl (mW cB cI cJ cZ h0 a cs9) t_.heap ∧ va_D A (mW cB cI cJ cZ h0 a cs9)) A) ([.ref h0] : List Value).toArray s 0 0 A) (F0 m 50 ls []) := by
        intro cs1 u1 u2 u3 h H locs ls hP hD hS hl
        unfold m_tokens_b50 at h
        refine lv_iinc (v := u3 + 1) (lv' := [(3, .int (u3 + 1)), (0, .ref h0), (1, .int u1), (2, .int u2)]) hx hb dX12_tokens_50 hl (k := 3) rfl rfl (by decide) rfl (fun ls hl => ?_)
        refine lv_goto (tgt := 527) hx hb dX12_tokens_53 (by decide) ?_
        exact B_527 cs1 u1 u2 (u3 + 1) h _ _ _ hP hD hS (lv_sub hl [1, 2, 3, 0] rfl)
      have B_514 : ∀ (cs1 : RS) (u1 : Int32) (u2 : Int32) (u3 : Int32) (u5 : Int32), m_tokens_b514 F (m_tokens_L9 F lf_9) cs1 u1 u2 u3 u5 = some cs9 → ∀ (H : Heap) (locs : List Loc) (ls : Array Slot), va_P (dC, dI) vwCl (mW cB cI cJ cZ h0 a cs1) H → va_D A (mW cB cI cJ cZ h0 a cs1) → va_S A s.heap H locs → lv_has ls 9 [(0, .ref h0), (1, .int u1), (2, .int u2), (3, .int u3), (5, .int u5)] → W p l e (headSpec (wsOf yX12_tokens cX12_tokens 9 none) ({ frames := 1, cells := 0, slots := 0, locals := 60 * (1) } : Room)).room s m ([.ref h0] : List Value).toArray below meth c H locs 0 0 (MQ below (va_Qv (fun (_ : Unit) => True) (fun _ t_ => va_P (dC, dI) vwCl (mW cB cI cJ cZ h0 a cs9) t_.heap ∧ va_D A (mW cB cI cJ cZ h0 a cs9)) A) ([.ref h0] : List Value).toArray s 0 0 A) (F0 m 514 ls []) := by
        intro cs1 u1 u2 u3 u5 h H locs ls hP hD hS hl
        unfold m_tokens_b514 at h
        refine lv_aload_n hx hb dX12_tokens_514 rfl (lv_at hl 0 rfl) ?_
        refine fg_16 hx hb hts hown hK hP dX12_tokens_515 ?_
        refine lv_iload_n hx hb dX12_tokens_518 rfl (lv_at hl 2 rfl) ?_
        refine lv_iload_n hx hb dX12_tokens_519 rfl (lv_at hl 3 rfl) ?_
        refine lv_iload hx hb dX12_tokens_520 (lv_at hl 4 rfl) ?_
        refine lv_isub hx hb dX12_tokens_522 ?_
        obtain ⟨cs_1, hv_1, h⟩ := ob h
        refine ap_16 hx hb hK hP hD hS hv_1 dX12_tokens_523 (fun H locs hP hD hS => ?_)
        refine lv_iinc (v := u2 + 1) (lv' := [(2, .int (u2 + 1)), (0, .ref h0), (1, .int u1), (3, .int u3), (5, .int u5)]) hx hb dX12_tokens_524 hl (k := 2) rfl rfl (by decide) rfl (fun ls hl => ?_)
        exact B_527 cs_1 u1 (u2 + 1) u3 h _ _ _ hP hD hS (lv_sub hl [1, 2, 0, 3] rfl)
      have B_135 : ∀ (cs1 : RS) (u1 : Int32) (u2 : Int32) (u3 : Int32) (u5 : Int32) (y0 : Int32) (y1 : Int32), m_tokens_b135 F (m_tokens_L9 F lf_9) cs1 u1 u2 u3 u5 y0 y1 = some cs9 → ∀ (H : Heap) (locs : List Loc) (ls : Array Slot), va_P (dC, dI) vwCl (mW cB cI cJ cZ h0 a cs1) H → va_D A (mW cB cI cJ cZ h0 a cs1) → va_S A s.heap H locs → lv_has ls 9 [(0, .ref h0), (1, .int u1), (2, .int u2), (3, .int u3), (5, .int u5)] → W p l e (headSpec (wsOf yX12_tokens cX12_tokens 9 none) ({ frames := 1, cells := 0, slots := 0, locals := 60 * (1) } : Room)).room s m ([.ref h0] : List Value).toArray below meth c H locs 0 0 (MQ below (va_Qv (fun (_ : Unit) => True) (fun _ t_ => va_P (dC, dI) vwCl (mW cB cI cJ cZ h0 a cs9) t_.heap ∧ va_D A (mW cB cI cJ cZ h0 a cs9)) A) ([.ref h0] : List Value).toArray s 0 0 A) (F0 m 135 ls [.int y0, .int y1, .ref (a 14)]) := by
        intro cs1 u1 u2 u3 u5 y0 y1 h H locs ls hP hD hS hl
        unfold m_tokens_b135 at h
        obtain ⟨cs_2, hv_2, h⟩ := ob h
        refine ap_14 hx hb hK hP hD hS hv_2 dX12_tokens_135 (fun H locs hP hD hS => ?_)
        refine lv_goto (tgt := 514) hx hb dX12_tokens_136 (by decide) ?_
        exact B_514 cs_2 u1 u2 u3 u5 h _ _ _ hP hD hS (lv_sub hl [0, 1, 2, 3, 4] rfl)
      have B_116 : ∀ (cs1 : RS) (u1 : Int32) (u2 : Int32) (u3 : Int32) (u5 : Int32), m_tokens_b116 F (m_tokens_L9 F lf_9) cs1 u1 u2 u3 u5 = some cs9 → ∀ (H : Heap) (locs : List Loc) (ls : Array Slot), va_P (dC, dI) vwCl (mW cB cI cJ cZ h0 a cs1) H → va_D A (mW cB cI cJ cZ h0 a cs1) → va_S A s.heap H locs → lv_has ls 9 [(0, .ref h0), (1, .int u1), (2, .int u2), (3, .int u3), (5, .int u5)] → W p l e (headSpec (wsOf yX12_tokens cX12_tokens 9 none) ({ frames := 1, cells := 0, slots := 0, locals := 60 * (1) } : Room)).room s m ([.ref h0] : List Value).toArray below meth c H locs 0 0 (MQ below (va_Qv (fun (_ : Unit) => True) (fun _ t_ => va_P (dC, dI) vwCl (mW cB cI cJ cZ h0 a cs9) t_.heap ∧ va_D A (mW cB cI cJ cZ h0 a cs9)) A) ([.ref h0] : List Value).toArray s 0 0 A) (F0 m 116 ls []) := by
        intro cs1 u1 u2 u3 u5 h H locs ls hP hD hS hl
        unfold m_tokens_b116 at h
        refine lv_aload_n hx hb dX12_tokens_116 rfl (lv_at hl 0 rfl) ?_
        refine fg_14 hx hb hts hown hK hP dX12_tokens_117 ?_
        refine lv_iload_n hx hb dX12_tokens_120 rfl (lv_at hl 2 rfl) ?_
        refine lv_iload_n hx hb dX12_tokens_121 rfl (lv_at hl 3 rfl) ?_
        refine lv_iload hx hb dX12_tokens_122 (lv_at hl 4 rfl) ?_
        refine lv_isub hx hb dX12_tokens_124 ?_
        refine lv_bipush (v := 12) hx hb dX12_tokens_125 (by decide) ?_
        refine lv_icmp_le (tgt := 134) hx hb dX12_tokens_127 (by decide) (fun c_3 => ?_) (fun c_3 => ?_)
        · skip
          replace h := (if_pos c_3).symm.trans h
          refine lv_iconst (v := 1) hx hb dX12_tokens_134 (by decide) ?_
          exact B_135 cs1 u1 u2 u3 u5 1 u2 h _ _ _ hP hD hS (lv_sub hl [0, 1, 2, 3, 4] rfl)
        · skip
          replace h := (if_neg c_3).symm.trans h
          refine lv_iconst (v := 3) hx hb dX12_tokens_130 (by decide) ?_
          refine lv_goto (tgt := 135) hx hb dX12_tokens_131 (by decide) ?_
          exact B_135 cs1 u1 u2 u3 u5 3 u2 h _ _ _ hP hD hS (lv_sub hl [0, 1, 2, 3, 4] rfl)
      have L_81 : ∀ (lf_81 : Nat), ∀ (cs1 : RS) (u1 : Int32) (u2 : Int32) (u3 : Int32) (u5 : Int32), m_tokens_L81 F (m_tokens_L9 F lf_9) lf_81 cs1 u1 u2 u3 u5 = some cs9 → ∀ (H : Heap) (locs : List Loc) (ls : Array Slot), va_P (dC, dI) vwCl (mW cB cI cJ cZ h0 a cs1) H → va_D A (mW cB cI cJ cZ h0 a cs1) → va_S A s.heap H locs → lv_has ls 9 [(0, .ref h0), (1, .int u1), (2, .int u2), (3, .int u3), (5, .int u5)] → W p l e (headSpec (wsOf yX12_tokens cX12_tokens 9 none) ({ frames := 1, cells := 0, slots := 0, locals := 60 * (1) } : Room)).room s m ([.ref h0] : List Value).toArray below meth c H locs 0 0 (MQ below (va_Qv (fun (_ : Unit) => True) (fun _ t_ => va_P (dC, dI) vwCl (mW cB cI cJ cZ h0 a cs9) t_.heap ∧ va_D A (mW cB cI cJ cZ h0 a cs9)) A) ([.ref h0] : List Value).toArray s 0 0 A) (F0 m 81 ls []) := by
        intro lf_81
        induction lf_81 with
        | zero => intro cs1 u1 u2 u3 u5 h; cases (show (none : Option RS) = _ from h)
        | succ lf_81 ih_81 =>
          have B_110 : ∀ (cs1 : RS) (u1 : Int32) (u2 : Int32) (u3 : Int32) (u5 : Int32), m_tokens_b110 F (m_tokens_L9 F lf_9) (m_tokens_L81 F (m_tokens_L9 F lf_9) lf_81) cs1 u1 u2 u3 u5 = some cs9 → ∀ (H : Heap) (locs : List Loc) (ls : Array Slot), va_P (dC, dI) vwCl (mW cB cI cJ cZ h0 a cs1) H → va_D A (mW cB cI cJ cZ h0 a cs1) → va_S A s.heap H locs → lv_has ls 9 [(0, .ref h0), (1, .int u1), (2, .int u2), (3, .int u3), (5, .int u5)] → W p l e (headSpec (wsOf yX12_tokens cX12_tokens 9 none) ({ frames := 1, cells := 0, slots := 0, locals := 60 * (1) } : Room)).room s m ([.ref h0] : List Value).toArray below meth c H locs 0 0 (MQ below (va_Qv (fun (_ : Unit) => True) (fun _ t_ => va_P (dC, dI) vwCl (mW cB cI cJ cZ h0 a cs9) t_.heap ∧ va_D A (mW cB cI cJ cZ h0 a cs9)) A) ([.ref h0] : List Value).toArray s 0 0 A) (F0 m 110 ls []) := by
            intro cs1 u1 u2 u3 u5 h H locs ls hP hD hS hl
            unfold m_tokens_b110 at h
            refine lv_iinc (v := u3 + 1) (lv' := [(3, .int (u3 + 1)), (0, .ref h0), (1, .int u1), (2, .int u2), (5, .int u5)]) hx hb dX12_tokens_110 hl (k := 3) rfl rfl (by decide) rfl (fun ls hl => ?_)
            refine lv_goto (tgt := 81) hx hb dX12_tokens_113 (by decide) ?_
            exact ih_81 cs1 u1 u2 (u3 + 1) u5 h _ _ _ hP hD hS (lv_sub hl [1, 2, 3, 0, 4] rfl)
          intro cs1 u1 u2 u3 u5 h H locs ls hP hD hS hl
          rw [m_tokens_L81] at h
          refine lv_iload_n hx hb dX12_tokens_81 rfl (lv_at hl 3 rfl) ?_
          refine lv_iload_n hx hb dX12_tokens_82 rfl (lv_at hl 1 rfl) ?_
          refine lv_icmp_ge (tgt := 116) hx hb dX12_tokens_83 (by decide) (fun c_4 => ?_) (fun c_4 => ?_)
          · skip
            replace h := (if_pos c_4).symm.trans h
            exact B_116 cs1 u1 u2 u3 u5 h _ _ _ hP hD hS (lv_sub hl [0, 1, 2, 3, 4] rfl)
          · skip
            replace h := (if_neg c_4).symm.trans h
            refine lv_aload_n hx hb dX12_tokens_86 rfl (lv_at hl 0 rfl) ?_
            refine fg_2 hx hb hts hown hK hP dX12_tokens_87 ?_
            refine lv_iload_n hx hb dX12_tokens_90 rfl (lv_at hl 3 rfl) ?_
            obtain ⟨v_5, hv_5, h⟩ := ob h
            refine ag_2 hx hb hK hP hv_5 dX12_tokens_91 ?_
            obtain ⟨v_6, hv_6, h⟩ := ob h
            refine calSI (As := [.int v_5]) hx hb hml hts hown hK hP hD hS hA hZ (s_isLetter l dC dI cB cI cJ cZ h0 a K V fz F cs1 v_5 v_6 hv_6) (cw_isLetter hts (fr := 0) (Nat.le_of_ble_eq_true rfl) (Nat.le_of_ble_eq_true rfl)) rfl hl.1 (Nat.le_of_ble_eq_true rfl) ⟨Nat.zero_le _, Nat.zero_le _⟩ dX12_tokens_92 (fun H locs hP hD hS => ?_)
            refine lv_if_ne (tgt := 110) hx hb dX12_tokens_95 (by decide) (fun c_7 => ?_) (fun c_7 => ?_)
            · skip
              replace h := (if_neg c_7).symm.trans h
              exact B_110 cs1 u1 u2 u3 u5 h _ _ _ hP hD hS (lv_sub hl [0, 1, 2, 3, 4] rfl)
            · skip
              replace h := (if_pos c_7).symm.trans h
              refine lv_aload_n hx hb dX12_tokens_98 rfl (lv_at hl 0 rfl) ?_
              refine fg_2 hx hb hts hown hK hP dX12_tokens_99 ?_
              refine lv_iload_n hx hb dX12_tokens_102 rfl (lv_at hl 3 rfl) ?_
              obtain ⟨v_8, hv_8, h⟩ := ob h
              refine ag_2 hx hb hK hP hv_8 dX12_tokens_103 ?_
              obtain ⟨v_9, hv_9, h⟩ := ob h
              refine calSI (As := [.int v_8]) hx hb hml hts hown hK hP hD hS hA hZ (s_isDigit l dC dI cB cI cJ cZ h0 a K V fz F cs1 v_8 v_9 hv_9) (cw_isDigit hts (fr := 0) (Nat.le_of_ble_eq_true rfl) (Nat.le_of_ble_eq_true rfl)) rfl hl.1 (Nat.le_of_ble_eq_true rfl) ⟨Nat.zero_le _, Nat.zero_le _⟩ dX12_tokens_104 (fun H locs hP hD hS => ?_)
              refine lv_if_eq (tgt := 116) hx hb dX12_tokens_107 (by decide) (fun c_10 => ?_) (fun c_10 => ?_)
              · skip
                replace h := (if_pos c_10).symm.trans h
                exact B_116 cs1 u1 u2 u3 u5 h _ _ _ hP hD hS (lv_sub hl [0, 1, 2, 3, 4] rfl)
              · skip
                replace h := (if_neg c_10).symm.trans h
                exact B_110 cs1 u1 u2 u3 u5 h _ _ _ hP hD hS (lv_sub hl [0, 1, 2, 3, 4] rfl)
      have B_295 : ∀ (cs1 : RS) (u1 : Int32) (u2 : Int32) (u3 : Int32) (u5 : Int32) (y0 : Int32) (y1 : Int32), m_tokens_b295 F (m_tokens_L9 F lf_9) cs1 u1 u2 u3 u5 y0 y1 = some cs9 → ∀ (H : Heap) (locs : List Loc) (ls : Array Slot), va_P (dC, dI) vwCl (mW cB cI cJ cZ h0 a cs1) H → va_D A (mW cB cI cJ cZ h0 a cs1) → va_S A s.heap H locs → lv_has ls 9 [(0, .ref h0), (1, .int u1), (2, .int u2), (3, .int u3), (5, .int u5)] → W p l e (headSpec (wsOf yX12_tokens cX12_tokens 9 none) ({ frames := 1, cells := 0, slots := 0, locals := 60 * (1) } : Room)).room s m ([.ref h0] : List Value).toArray below meth c H locs 0 0 (MQ below (va_Qv (fun (_ : Unit) => True) (fun _ t_ => va_P (dC, dI) vwCl (mW cB cI cJ cZ h0 a cs9) t_.heap ∧ va_D A (mW cB cI cJ cZ h0 a cs9)) A) ([.ref h0] : List Value).toArray s 0 0 A) (F0 m 295 ls [.int y0, .int y1, .ref (a 14)]) := by
        intro cs1 u1 u2 u3 u5 y0 y1 h H locs ls hP hD hS hl
        unfold m_tokens_b295 at h
        obtain ⟨cs_11, hv_11, h⟩ := ob h
        refine ap_14 hx hb hK hP hD hS hv_11 dX12_tokens_295 (fun H locs hP hD hS => ?_)
        refine lv_goto (tgt := 514) hx hb dX12_tokens_296 (by decide) ?_
        exact B_514 cs_11 u1 u2 u3 u5 h _ _ _ hP hD hS (lv_sub hl [0, 1, 2, 3, 4] rfl)
      have B_290 : ∀ (cs1 : RS) (u1 : Int32) (u2 : Int32) (u3 : Int32) (u5 : Int32) (y0 : Int32), m_tokens_b290 F (m_tokens_L9 F lf_9) cs1 u1 u2 u3 u5 y0 = some cs9 → ∀ (H : Heap) (locs : List Loc) (ls : Array Slot), va_P (dC, dI) vwCl (mW cB cI cJ cZ h0 a cs1) H → va_D A (mW cB cI cJ cZ h0 a cs1) → va_S A s.heap H locs → lv_has ls 9 [(0, .ref h0), (1, .int u1), (2, .int u2), (3, .int u3), (5, .int u5)] → W p l e (headSpec (wsOf yX12_tokens cX12_tokens 9 none) ({ frames := 1, cells := 0, slots := 0, locals := 60 * (1) } : Room)).room s m ([.ref h0] : List Value).toArray below meth c H locs 0 0 (MQ below (va_Qv (fun (_ : Unit) => True) (fun _ t_ => va_P (dC, dI) vwCl (mW cB cI cJ cZ h0 a cs9) t_.heap ∧ va_D A (mW cB cI cJ cZ h0 a cs9)) A) ([.ref h0] : List Value).toArray s 0 0 A) (F0 m 290 ls [.int y0, .ref (a 14)]) := by
        intro cs1 u1 u2 u3 u5 y0 h H locs ls hP hD hS hl
        unfold m_tokens_b290 at h
        refine lv_iconst (v := 3) hx hb dX12_tokens_290 (by decide) ?_
        refine lv_goto (tgt := 295) hx hb dX12_tokens_291 (by decide) ?_
        exact B_295 cs1 u1 u2 u3 u5 3 y0 h _ _ _ hP hD hS (lv_sub hl [0, 1, 2, 3, 4] rfl)
      have B_294 : ∀ (cs1 : RS) (u1 : Int32) (u2 : Int32) (u3 : Int32) (u5 : Int32) (y0 : Int32), m_tokens_b294 F (m_tokens_L9 F lf_9) cs1 u1 u2 u3 u5 y0 = some cs9 → ∀ (H : Heap) (locs : List Loc) (ls : Array Slot), va_P (dC, dI) vwCl (mW cB cI cJ cZ h0 a cs1) H → va_D A (mW cB cI cJ cZ h0 a cs1) → va_S A s.heap H locs → lv_has ls 9 [(0, .ref h0), (1, .int u1), (2, .int u2), (3, .int u3), (5, .int u5)] → W p l e (headSpec (wsOf yX12_tokens cX12_tokens 9 none) ({ frames := 1, cells := 0, slots := 0, locals := 60 * (1) } : Room)).room s m ([.ref h0] : List Value).toArray below meth c H locs 0 0 (MQ below (va_Qv (fun (_ : Unit) => True) (fun _ t_ => va_P (dC, dI) vwCl (mW cB cI cJ cZ h0 a cs9) t_.heap ∧ va_D A (mW cB cI cJ cZ h0 a cs9)) A) ([.ref h0] : List Value).toArray s 0 0 A) (F0 m 294 ls [.int y0, .ref (a 14)]) := by
        intro cs1 u1 u2 u3 u5 y0 h H locs ls hP hD hS hl
        unfold m_tokens_b294 at h
        refine lv_iconst (v := 2) hx hb dX12_tokens_294 (by decide) ?_
        exact B_295 cs1 u1 u2 u3 u5 2 y0 h _ _ _ hP hD hS (lv_sub hl [0, 1, 2, 3, 4] rfl)
      have B_263 : ∀ (cs1 : RS) (u1 : Int32) (u2 : Int32) (u3 : Int32) (u5 : Int32) (u6 : Int32), m_tokens_b263 F (m_tokens_L9 F lf_9) cs1 u1 u2 u3 u5 u6 = some cs9 → ∀ (H : Heap) (locs : List Loc) (ls : Array Slot), va_P (dC, dI) vwCl (mW cB cI cJ cZ h0 a cs1) H → va_D A (mW cB cI cJ cZ h0 a cs1) → va_S A s.heap H locs → lv_has ls 9 [(0, .ref h0), (1, .int u1), (2, .int u2), (3, .int u3), (5, .int u5), (6, .int u6)] → W p l e (headSpec (wsOf yX12_tokens cX12_tokens 9 none) ({ frames := 1, cells := 0, slots := 0, locals := 60 * (1) } : Room)).room s m ([.ref h0] : List Value).toArray below meth c H locs 0 0 (MQ below (va_Qv (fun (_ : Unit) => True) (fun _ t_ => va_P (dC, dI) vwCl (mW cB cI cJ cZ h0 a cs9) t_.heap ∧ va_D A (mW cB cI cJ cZ h0 a cs9)) A) ([.ref h0] : List Value).toArray s 0 0 A) (F0 m 263 ls []) := by
        intro cs1 u1 u2 u3 u5 u6 h H locs ls hP hD hS hl
        unfold m_tokens_b263 at h
        refine lv_aload_n hx hb dX12_tokens_263 rfl (lv_at hl 0 rfl) ?_
        refine fg_14 hx hb hts hown hK hP dX12_tokens_264 ?_
        refine lv_iload_n hx hb dX12_tokens_267 rfl (lv_at hl 2 rfl) ?_
        refine lv_iload hx hb dX12_tokens_268 (lv_at hl 5 rfl) ?_
        refine lv_if_eq (tgt := 290) hx hb dX12_tokens_270 (by decide) (fun c_12 => ?_) (fun c_12 => ?_)
        · skip
          replace h := (if_pos c_12).symm.trans h
          exact B_290 cs1 u1 u2 u3 u5 u2 h _ _ _ hP hD hS (lv_sub hl [0, 1, 2, 3, 4] rfl)
        · skip
          replace h := (if_neg c_12).symm.trans h
          refine lv_iload_n hx hb dX12_tokens_273 rfl (lv_at hl 3 rfl) ?_
          refine lv_iload_n hx hb dX12_tokens_274 rfl (lv_at hl 1 rfl) ?_
          refine lv_icmp_ge (tgt := 294) hx hb dX12_tokens_275 (by decide) (fun c_13 => ?_) (fun c_13 => ?_)
          · skip
            replace h := (if_pos c_13).symm.trans h
            exact B_294 cs1 u1 u2 u3 u5 u2 h _ _ _ hP hD hS (lv_sub hl [0, 1, 2, 3, 4] rfl)
          · skip
            replace h := (if_neg c_13).symm.trans h
            refine lv_aload_n hx hb dX12_tokens_278 rfl (lv_at hl 0 rfl) ?_
            refine fg_2 hx hb hts hown hK hP dX12_tokens_279 ?_
            refine lv_iload_n hx hb dX12_tokens_282 rfl (lv_at hl 3 rfl) ?_
            obtain ⟨v_14, hv_14, h⟩ := ob h
            refine ag_2 hx hb hK hP hv_14 dX12_tokens_283 ?_
            obtain ⟨v_15, hv_15, h⟩ := ob h
            refine calSI (As := [.int v_14]) hx hb hml hts hown hK hP hD hS hA hZ (s_isLetter l dC dI cB cI cJ cZ h0 a K V fz F cs1 v_14 v_15 hv_15) (cw_isLetter hts (fr := 0) (Nat.le_of_ble_eq_true rfl) (Nat.le_of_ble_eq_true rfl)) rfl hl.1 (Nat.le_of_ble_eq_true rfl) ⟨Nat.zero_le _, Nat.zero_le _⟩ dX12_tokens_284 (fun H locs hP hD hS => ?_)
            refine lv_if_eq (tgt := 294) hx hb dX12_tokens_287 (by decide) (fun c_16 => ?_) (fun c_16 => ?_)
            · skip
              replace h := (if_pos c_16).symm.trans h
              exact B_294 cs1 u1 u2 u3 u5 u2 h _ _ _ hP hD hS (lv_sub hl [0, 1, 2, 3, 4] rfl)
            · skip
              replace h := (if_neg c_16).symm.trans h
              exact B_290 cs1 u1 u2 u3 u5 u2 h _ _ _ hP hD hS (lv_sub hl [0, 1, 2, 3, 4] rfl)
      have L_150 : ∀ (lf_150 : Nat), ∀ (cs1 : RS) (u1 : Int32) (u2 : Int32) (u3 : Int32) (u5 : Int32) (u6 : Int32), m_tokens_L150 F (m_tokens_L9 F lf_9) lf_150 cs1 u1 u2 u3 u5 u6 = some cs9 → ∀ (H : Heap) (locs : List Loc) (ls : Array Slot), va_P (dC, dI) vwCl (mW cB cI cJ cZ h0 a cs1) H → va_D A (mW cB cI cJ cZ h0 a cs1) → va_S A s.heap H locs → lv_has ls 9 [(0, .ref h0), (1, .int u1), (2, .int u2), (3, .int u3), (5, .int u5), (6, .int u6)] → W p l e (headSpec (wsOf yX12_tokens cX12_tokens 9 none) ({ frames := 1, cells := 0, slots := 0, locals := 60 * (1) } : Room)).room s m ([.ref h0] : List Value).toArray below meth c H locs 0 0 (MQ below (va_Qv (fun (_ : Unit) => True) (fun _ t_ => va_P (dC, dI) vwCl (mW cB cI cJ cZ h0 a cs9) t_.heap ∧ va_D A (mW cB cI cJ cZ h0 a cs9)) A) ([.ref h0] : List Value).toArray s 0 0 A) (F0 m 150 ls []) := by
        intro lf_150
        induction lf_150 with
        | zero => intro cs1 u1 u2 u3 u5 u6 h; cases (show (none : Option RS) = _ from h)
        | succ lf_150 ih_150 =>
          have B_256 : ∀ (cs1 : RS) (u1 : Int32) (u2 : Int32) (u3 : Int32) (u5 : Int32) (u6 : Int32) (y0 : Int64) (y1 : Int32), m_tokens_b256 F (m_tokens_L9 F lf_9) (m_tokens_L150 F (m_tokens_L9 F lf_9) lf_150) cs1 u1 u2 u3 u5 u6 y0 y1 = some cs9 → ∀ (H : Heap) (locs : List Loc) (ls : Array Slot), va_P (dC, dI) vwCl (mW cB cI cJ cZ h0 a cs1) H → va_D A (mW cB cI cJ cZ h0 a cs1) → va_S A s.heap H locs → lv_has ls 9 [(0, .ref h0), (1, .int u1), (2, .int u2), (3, .int u3), (5, .int u5), (6, .int u6)] → W p l e (headSpec (wsOf yX12_tokens cX12_tokens 9 none) ({ frames := 1, cells := 0, slots := 0, locals := 60 * (1) } : Room)).room s m ([.ref h0] : List Value).toArray below meth c H locs 0 0 (MQ below (va_Qv (fun (_ : Unit) => True) (fun _ t_ => va_P (dC, dI) vwCl (mW cB cI cJ cZ h0 a cs9) t_.heap ∧ va_D A (mW cB cI cJ cZ h0 a cs9)) A) ([.ref h0] : List Value).toArray s 0 0 A) (F0 m 256 ls [.long y0, .int y1, .ref (a 17)]) := by
            intro cs1 u1 u2 u3 u5 u6 y0 y1 h H locs ls hP hD hS hl
            unfold m_tokens_b256 at h
            obtain ⟨cs_17, hv_17, h⟩ := ob h
            refine ap_17 hx hb hK hP hD hS hv_17 dX12_tokens_256 (fun H locs hP hD hS => ?_)
            refine lv_iinc (v := u3 + 1) (lv' := [(3, .int (u3 + 1)), (0, .ref h0), (1, .int u1), (2, .int u2), (5, .int u5), (6, .int u6)]) hx hb dX12_tokens_257 hl (k := 3) rfl rfl (by decide) rfl (fun ls hl => ?_)
            refine lv_goto (tgt := 150) hx hb dX12_tokens_260 (by decide) ?_
            exact ih_150 cs_17 u1 u2 (u3 + 1) u5 u6 h _ _ _ hP hD hS (lv_sub hl [1, 2, 3, 0, 4, 5] rfl)
          have B_221 : ∀ (cs1 : RS) (u1 : Int32) (u2 : Int32) (u3 : Int32) (u5 : Int32) (u7 : Int32) (y0 : Int32), m_tokens_b221 F (m_tokens_L9 F lf_9) (m_tokens_L150 F (m_tokens_L9 F lf_9) lf_150) cs1 u1 u2 u3 u5 u7 y0 = some cs9 → ∀ (H : Heap) (locs : List Loc) (ls : Array Slot), va_P (dC, dI) vwCl (mW cB cI cJ cZ h0 a cs1) H → va_D A (mW cB cI cJ cZ h0 a cs1) → va_S A s.heap H locs → lv_has ls 9 [(0, .ref h0), (1, .int u1), (2, .int u2), (3, .int u3), (5, .int u5), (7, .int u7)] → W p l e (headSpec (wsOf yX12_tokens cX12_tokens 9 none) ({ frames := 1, cells := 0, slots := 0, locals := 60 * (1) } : Room)).room s m ([.ref h0] : List Value).toArray below meth c H locs 0 0 (MQ below (va_Qv (fun (_ : Unit) => True) (fun _ t_ => va_P (dC, dI) vwCl (mW cB cI cJ cZ h0 a cs9) t_.heap ∧ va_D A (mW cB cI cJ cZ h0 a cs9)) A) ([.ref h0] : List Value).toArray s 0 0 A) (F0 m 221 ls [.int y0]) := by
            intro cs1 u1 u2 u3 u5 u7 y0 h H locs ls hP hD hS hl
            unfold m_tokens_b221 at h
            refine lv_istore (lv' := [(6, .int y0), (0, .ref h0), (1, .int u1), (2, .int u2), (3, .int u3), (5, .int u5), (7, .int u7)]) hx hb dX12_tokens_221 hl (by decide) rfl (fun ls hl => ?_)
            refine lv_aload_n hx hb dX12_tokens_223 rfl (lv_at hl 1 rfl) ?_
            refine fg_17 hx hb hts hown hK hP dX12_tokens_224 ?_
            refine lv_iload_n hx hb dX12_tokens_227 rfl (lv_at hl 3 rfl) ?_
            refine lv_iload hx hb dX12_tokens_228 (lv_at hl 0 rfl) ?_
            refine lv_if_eq (tgt := 250) hx hb dX12_tokens_230 (by decide) (fun c_18 => ?_) (fun c_18 => ?_)
            · skip
              replace h := (if_pos c_18).symm.trans h
              refine lv_aload_n hx hb dX12_tokens_250 rfl (lv_at hl 1 rfl) ?_
              refine fg_17 hx hb hts hown hK hP dX12_tokens_251 ?_
              refine lv_iload_n hx hb dX12_tokens_254 rfl (lv_at hl 3 rfl) ?_
              obtain ⟨v_19, hv_19, h⟩ := ob h
              refine ag_17 hx hb hK hP hv_19 dX12_tokens_255 ?_
              exact B_256 cs1 u1 u2 u3 u5 y0 v_19 u2 h _ _ _ hP hD hS (lv_sub hl [1, 2, 3, 4, 5, 0] rfl)
            · skip
              replace h := (if_neg c_18).symm.trans h
              refine lv_aload_n hx hb dX12_tokens_233 rfl (lv_at hl 1 rfl) ?_
              refine fg_17 hx hb hts hown hK hP dX12_tokens_234 ?_
              refine lv_iload_n hx hb dX12_tokens_237 rfl (lv_at hl 3 rfl) ?_
              obtain ⟨v_20, hv_20, h⟩ := ob h
              refine ag_17 hx hb hK hP hv_20 dX12_tokens_238 ?_
              refine lv_ldc2 hx hb hown (hts _ (List.mem_cons_of_mem _ kw_2239)) dX12_tokens_239 ?_
              refine lv_lmul hx hb dX12_tokens_242 ?_
              refine lv_iload hx hb dX12_tokens_243 (lv_at hl 6 rfl) ?_
              refine lv_i2l hx hb dX12_tokens_245 rfl ?_
              refine lv_ladd hx hb dX12_tokens_246 ?_
              refine lv_goto (tgt := 256) hx hb dX12_tokens_247 (by decide) ?_
              exact B_256 cs1 u1 u2 u3 u5 y0 ((v_20 * (10)) + ((u7 : Int32).toInt64)) u2 h _ _ _ hP hD hS (lv_sub hl [1, 2, 3, 4, 5, 0] rfl)
          have B_216 : ∀ (cs1 : RS) (u1 : Int32) (u2 : Int32) (u3 : Int32) (u5 : Int32) (u7 : Int32), m_tokens_b216 F (m_tokens_L9 F lf_9) (m_tokens_L150 F (m_tokens_L9 F lf_9) lf_150) cs1 u1 u2 u3 u5 u7 = some cs9 → ∀ (H : Heap) (locs : List Loc) (ls : Array Slot), va_P (dC, dI) vwCl (mW cB cI cJ cZ h0 a cs1) H → va_D A (mW cB cI cJ cZ h0 a cs1) → va_S A s.heap H locs → lv_has ls 9 [(0, .ref h0), (1, .int u1), (2, .int u2), (3, .int u3), (5, .int u5), (7, .int u7)] → W p l e (headSpec (wsOf yX12_tokens cX12_tokens 9 none) ({ frames := 1, cells := 0, slots := 0, locals := 60 * (1) } : Room)).room s m ([.ref h0] : List Value).toArray below meth c H locs 0 0 (MQ below (va_Qv (fun (_ : Unit) => True) (fun _ t_ => va_P (dC, dI) vwCl (mW cB cI cJ cZ h0 a cs9) t_.heap ∧ va_D A (mW cB cI cJ cZ h0 a cs9)) A) ([.ref h0] : List Value).toArray s 0 0 A) (F0 m 216 ls []) := by
            intro cs1 u1 u2 u3 u5 u7 h H locs ls hP hD hS hl
            unfold m_tokens_b216 at h
            refine lv_iconst (v := 1) hx hb dX12_tokens_216 (by decide) ?_
            refine lv_goto (tgt := 221) hx hb dX12_tokens_217 (by decide) ?_
            exact B_221 cs1 u1 u2 u3 u5 u7 1 h _ _ _ hP hD hS (lv_sub hl [0, 1, 2, 3, 4, 5] rfl)
          have B_220 : ∀ (cs1 : RS) (u1 : Int32) (u2 : Int32) (u3 : Int32) (u5 : Int32) (u7 : Int32), m_tokens_b220 F (m_tokens_L9 F lf_9) (m_tokens_L150 F (m_tokens_L9 F lf_9) lf_150) cs1 u1 u2 u3 u5 u7 = some cs9 → ∀ (H : Heap) (locs : List Loc) (ls : Array Slot), va_P (dC, dI) vwCl (mW cB cI cJ cZ h0 a cs1) H → va_D A (mW cB cI cJ cZ h0 a cs1) → va_S A s.heap H locs → lv_has ls 9 [(0, .ref h0), (1, .int u1), (2, .int u2), (3, .int u3), (5, .int u5), (7, .int u7)] → W p l e (headSpec (wsOf yX12_tokens cX12_tokens 9 none) ({ frames := 1, cells := 0, slots := 0, locals := 60 * (1) } : Room)).room s m ([.ref h0] : List Value).toArray below meth c H locs 0 0 (MQ below (va_Qv (fun (_ : Unit) => True) (fun _ t_ => va_P (dC, dI) vwCl (mW cB cI cJ cZ h0 a cs9) t_.heap ∧ va_D A (mW cB cI cJ cZ h0 a cs9)) A) ([.ref h0] : List Value).toArray s 0 0 A) (F0 m 220 ls []) := by
            intro cs1 u1 u2 u3 u5 u7 h H locs ls hP hD hS hl
            unfold m_tokens_b220 at h
            refine lv_iconst (v := 0) hx hb dX12_tokens_220 (by decide) ?_
            exact B_221 cs1 u1 u2 u3 u5 u7 0 h _ _ _ hP hD hS (lv_sub hl [0, 1, 2, 3, 4, 5] rfl)
          intro cs1 u1 u2 u3 u5 u6 h H locs ls hP hD hS hl
          rw [m_tokens_L150] at h
          refine lv_iload_n hx hb dX12_tokens_150 rfl (lv_at hl 3 rfl) ?_
          refine lv_iload_n hx hb dX12_tokens_151 rfl (lv_at hl 1 rfl) ?_
          refine lv_icmp_ge (tgt := 263) hx hb dX12_tokens_152 (by decide) (fun c_21 => ?_) (fun c_21 => ?_)
          · skip
            replace h := (if_pos c_21).symm.trans h
            exact B_263 cs1 u1 u2 u3 u5 u6 h _ _ _ hP hD hS (lv_sub hl [0, 1, 2, 3, 4, 5] rfl)
          · skip
            replace h := (if_neg c_21).symm.trans h
            refine lv_aload_n hx hb dX12_tokens_155 rfl (lv_at hl 0 rfl) ?_
            refine fg_2 hx hb hts hown hK hP dX12_tokens_156 ?_
            refine lv_iload_n hx hb dX12_tokens_159 rfl (lv_at hl 3 rfl) ?_
            obtain ⟨v_22, hv_22, h⟩ := ob h
            refine ag_2 hx hb hK hP hv_22 dX12_tokens_160 ?_
            obtain ⟨v_23, hv_23, h⟩ := ob h
            refine calSI (As := [.int v_22]) hx hb hml hts hown hK hP hD hS hA hZ (s_isDigit l dC dI cB cI cJ cZ h0 a K V fz F cs1 v_22 v_23 hv_23) (cw_isDigit hts (fr := 0) (Nat.le_of_ble_eq_true rfl) (Nat.le_of_ble_eq_true rfl)) rfl hl.1 (Nat.le_of_ble_eq_true rfl) ⟨Nat.zero_le _, Nat.zero_le _⟩ dX12_tokens_161 (fun H locs hP hD hS => ?_)
            refine lv_if_eq (tgt := 263) hx hb dX12_tokens_164 (by decide) (fun c_24 => ?_) (fun c_24 => ?_)
            · skip
              replace h := (if_pos c_24).symm.trans h
              exact B_263 cs1 u1 u2 u3 u5 u6 h _ _ _ hP hD hS (lv_sub hl [0, 1, 2, 3, 4, 5] rfl)
            · skip
              replace h := (if_neg c_24).symm.trans h
              refine lv_aload_n hx hb dX12_tokens_167 rfl (lv_at hl 0 rfl) ?_
              refine fg_2 hx hb hts hown hK hP dX12_tokens_168 ?_
              refine lv_iload_n hx hb dX12_tokens_171 rfl (lv_at hl 3 rfl) ?_
              obtain ⟨v_25, hv_25, h⟩ := ob h
              refine ag_2 hx hb hK hP hv_25 dX12_tokens_172 ?_
              refine lv_bipush (v := 48) hx hb dX12_tokens_173 (by decide) ?_
              refine lv_isub hx hb dX12_tokens_175 ?_
              refine lv_istore (lv' := [(7, .int (v_25 - 48)), (0, .ref h0), (1, .int u1), (2, .int u2), (3, .int u3), (5, .int u5), (6, .int u6)]) hx hb dX12_tokens_176 hl (by decide) rfl (fun ls hl => ?_)
              refine lv_iload hx hb dX12_tokens_178 (lv_at hl 6 rfl) ?_
              refine lv_if_eq (tgt := 220) hx hb dX12_tokens_180 (by decide) (fun c_26 => ?_) (fun c_26 => ?_)
              · skip
                replace h := (if_pos c_26).symm.trans h
                exact B_220 cs1 u1 u2 u3 u5 (v_25 - 48) h _ _ _ hP hD hS (lv_sub hl [1, 2, 3, 4, 5, 0] rfl)
              · skip
                replace h := (if_neg c_26).symm.trans h
                refine lv_aload_n hx hb dX12_tokens_183 rfl (lv_at hl 1 rfl) ?_
                refine fg_17 hx hb hts hown hK hP dX12_tokens_184 ?_
                refine lv_iload_n hx hb dX12_tokens_187 rfl (lv_at hl 3 rfl) ?_
                obtain ⟨v_27, hv_27, h⟩ := ob h
                refine ag_17 hx hb hK hP hv_27 dX12_tokens_188 ?_
                refine lv_ldc2 hx hb hown (hts _ (List.mem_cons_of_mem _ kw_2238)) dX12_tokens_189 ?_
                refine W.lcmp hx hb dX12_tokens_192 ?_
                refine lv_if_lt (tgt := 216) hx hb dX12_tokens_193 (by decide) (fun c_28 => ?_) (fun c_28 => ?_)
                · skip
                  have c_28 : v_27 < (922337203685477580) := (lg_cmp_lt _ _).mp c_28
                  replace h := (if_pos c_28).symm.trans h
                  exact B_216 cs1 u1 u2 u3 u5 (v_25 - 48) h _ _ _ hP hD hS (lv_sub hl [1, 2, 3, 4, 5, 0] rfl)
                · skip
                  have c_28 : ¬ (v_27 < (922337203685477580)) := fun h9 => c_28 ((lg_cmp_lt _ _).mpr h9)
                  replace h := (if_neg c_28).symm.trans h
                  refine lv_aload_n hx hb dX12_tokens_196 rfl (lv_at hl 1 rfl) ?_
                  refine fg_17 hx hb hts hown hK hP dX12_tokens_197 ?_
                  refine lv_iload_n hx hb dX12_tokens_200 rfl (lv_at hl 3 rfl) ?_
                  obtain ⟨v_29, hv_29, h⟩ := ob h
                  refine ag_17 hx hb hK hP hv_29 dX12_tokens_201 ?_
                  refine lv_ldc2 hx hb hown (hts _ (List.mem_cons_of_mem _ kw_2238)) dX12_tokens_202 ?_
                  refine W.lcmp hx hb dX12_tokens_205 ?_
                  refine lv_if_ne (tgt := 220) hx hb dX12_tokens_206 (by decide) (fun c_30 => ?_) (fun c_30 => ?_)
                  · skip
                    have c_30 : ¬ (v_29 = (922337203685477580)) := fun h9 => c_30 ((lg_cmp_eq _ _).mpr h9)
                    replace h := (if_neg c_30).symm.trans h
                    exact B_220 cs1 u1 u2 u3 u5 (v_25 - 48) h _ _ _ hP hD hS (lv_sub hl [1, 2, 3, 4, 5, 0] rfl)
                  · skip
                    have c_30 : v_29 = (922337203685477580) := (lg_cmp_eq _ _).mp c_30
                    replace h := (if_pos c_30).symm.trans h
                    refine lv_iload hx hb dX12_tokens_209 (lv_at hl 0 rfl) ?_
                    refine lv_bipush (v := 7) hx hb dX12_tokens_211 (by decide) ?_
                    refine lv_icmp_gt (tgt := 220) hx hb dX12_tokens_213 (by decide) (fun c_31 => ?_) (fun c_31 => ?_)
                    · skip
                      replace h := (if_pos c_31).symm.trans h
                      exact B_220 cs1 u1 u2 u3 u5 (v_25 - 48) h _ _ _ hP hD hS (lv_sub hl [1, 2, 3, 4, 5, 0] rfl)
                    · skip
                      replace h := (if_neg c_31).symm.trans h
                      exact B_216 cs1 u1 u2 u3 u5 (v_25 - 48) h _ _ _ hP hD hS (lv_sub hl [1, 2, 3, 4, 5, 0] rfl)
      have B_512 : ∀ (cs1 : RS) (u1 : Int32) (u2 : Int32) (u5 : Int32) (y0 : Int32) (y1 : Int32), m_tokens_b512 F (m_tokens_L9 F lf_9) cs1 u1 u2 u5 y0 y1 = some cs9 → ∀ (H : Heap) (locs : List Loc) (ls : Array Slot), va_P (dC, dI) vwCl (mW cB cI cJ cZ h0 a cs1) H → va_D A (mW cB cI cJ cZ h0 a cs1) → va_S A s.heap H locs → lv_has ls 9 [(0, .ref h0), (1, .int u1), (2, .int u2), (5, .int u5)] → W p l e (headSpec (wsOf yX12_tokens cX12_tokens 9 none) ({ frames := 1, cells := 0, slots := 0, locals := 60 * (1) } : Room)).room s m ([.ref h0] : List Value).toArray below meth c H locs 0 0 (MQ below (va_Qv (fun (_ : Unit) => True) (fun _ t_ => va_P (dC, dI) vwCl (mW cB cI cJ cZ h0 a cs9) t_.heap ∧ va_D A (mW cB cI cJ cZ h0 a cs9)) A) ([.ref h0] : List Value).toArray s 0 0 A) (F0 m 512 ls [.int y0, .int y1]) := by
        intro cs1 u1 u2 u5 y0 y1 h H locs ls hP hD hS hl
        unfold m_tokens_b512 at h
        refine lv_iadd hx hb dX12_tokens_512 ?_
        refine lv_istore_n (lv' := [(3, .int (y1 + y0)), (0, .ref h0), (1, .int u1), (2, .int u2), (5, .int u5)]) hx hb dX12_tokens_513 rfl hl (by decide) rfl (fun ls hl => ?_)
        exact B_514 cs1 u1 u2 (y1 + y0) u5 h _ _ _ hP hD hS (lv_sub hl [1, 2, 3, 0, 4] rfl)
      have B_500 : ∀ (cs1 : RS) (u1 : Int32) (u2 : Int32) (u3 : Int32) (u5 : Int32) (u7 : Int32) (y0 : Int32) (y1 : Int32), m_tokens_b500 F (m_tokens_L9 F lf_9) cs1 u1 u2 u3 u5 u7 y0 y1 = some cs9 → ∀ (H : Heap) (locs : List Loc) (ls : Array Slot), va_P (dC, dI) vwCl (mW cB cI cJ cZ h0 a cs1) H → va_D A (mW cB cI cJ cZ h0 a cs1) → va_S A s.heap H locs → lv_has ls 9 [(0, .ref h0), (1, .int u1), (2, .int u2), (3, .int u3), (5, .int u5), (7, .int u7)] → W p l e (headSpec (wsOf yX12_tokens cX12_tokens 9 none) ({ frames := 1, cells := 0, slots := 0, locals := 60 * (1) } : Room)).room s m ([.ref h0] : List Value).toArray below meth c H locs 0 0 (MQ below (va_Qv (fun (_ : Unit) => True) (fun _ t_ => va_P (dC, dI) vwCl (mW cB cI cJ cZ h0 a cs9) t_.heap ∧ va_D A (mW cB cI cJ cZ h0 a cs9)) A) ([.ref h0] : List Value).toArray s 0 0 A) (F0 m 500 ls [.int y0, .int y1, .ref (a 14)]) := by
        intro cs1 u1 u2 u3 u5 u7 y0 y1 h H locs ls hP hD hS hl
        unfold m_tokens_b500 at h
        obtain ⟨cs_32, hv_32, h⟩ := ob h
        refine ap_14 hx hb hK hP hD hS hv_32 dX12_tokens_500 (fun H locs hP hD hS => ?_)
        refine lv_iload_n hx hb dX12_tokens_501 rfl (lv_at hl 3 rfl) ?_
        refine lv_iload hx hb dX12_tokens_502 (lv_at hl 5 rfl) ?_
        refine lv_if_eq (tgt := 511) hx hb dX12_tokens_504 (by decide) (fun c_33 => ?_) (fun c_33 => ?_)
        · skip
          replace h := (if_pos c_33).symm.trans h
          refine lv_iconst (v := 1) hx hb dX12_tokens_511 (by decide) ?_
          exact B_512 cs_32 u1 u2 u5 1 u3 h _ _ _ hP hD hS (lv_sub hl [0, 1, 2, 4] rfl)
        · skip
          replace h := (if_neg c_33).symm.trans h
          refine lv_iconst (v := 2) hx hb dX12_tokens_507 (by decide) ?_
          refine lv_goto (tgt := 512) hx hb dX12_tokens_508 (by decide) ?_
          exact B_512 cs_32 u1 u2 u5 2 u3 h _ _ _ hP hD hS (lv_sub hl [0, 1, 2, 4] rfl)
      have B_472 : ∀ (cs1 : RS) (u1 : Int32) (u2 : Int32) (u3 : Int32) (u4 : Int32) (u5 : Int32) (u7 : Int32) (y0 : Int32), m_tokens_b472 F (m_tokens_L9 F lf_9) cs1 u1 u2 u3 u4 u5 u7 y0 = some cs9 → ∀ (H : Heap) (locs : List Loc) (ls : Array Slot), va_P (dC, dI) vwCl (mW cB cI cJ cZ h0 a cs1) H → va_D A (mW cB cI cJ cZ h0 a cs1) → va_S A s.heap H locs → lv_has ls 9 [(0, .ref h0), (1, .int u1), (2, .int u2), (3, .int u3), (4, .int u4), (5, .int u5), (7, .int u7)] → W p l e (headSpec (wsOf yX12_tokens cX12_tokens 9 none) ({ frames := 1, cells := 0, slots := 0, locals := 60 * (1) } : Room)).room s m ([.ref h0] : List Value).toArray below meth c H locs 0 0 (MQ below (va_Qv (fun (_ : Unit) => True) (fun _ t_ => va_P (dC, dI) vwCl (mW cB cI cJ cZ h0 a cs9) t_.heap ∧ va_D A (mW cB cI cJ cZ h0 a cs9)) A) ([.ref h0] : List Value).toArray s 0 0 A) (F0 m 472 ls [.int y0]) := by
        intro cs1 u1 u2 u3 u4 u5 u7 y0 h H locs ls hP hD hS hl
        unfold m_tokens_b472 at h
        refine lv_istore (lv' := [(8, .int y0), (0, .ref h0), (1, .int u1), (2, .int u2), (3, .int u3), (4, .int u4), (5, .int u5), (7, .int u7)]) hx hb dX12_tokens_472 hl (by decide) rfl (fun ls hl => ?_)
        refine lv_aload_n hx hb dX12_tokens_474 rfl (lv_at hl 1 rfl) ?_
        refine fg_14 hx hb hts hown hK hP dX12_tokens_475 ?_
        refine lv_iload_n hx hb dX12_tokens_478 rfl (lv_at hl 3 rfl) ?_
        refine lv_iload hx hb dX12_tokens_479 (lv_at hl 7 rfl) ?_
        refine lv_if_eq (tgt := 489) hx hb dX12_tokens_481 (by decide) (fun c_34 => ?_) (fun c_34 => ?_)
        · skip
          replace h := (if_pos c_34).symm.trans h
          refine lv_iload hx hb dX12_tokens_489 (lv_at hl 0 rfl) ?_
          refine lv_if_eq (tgt := 499) hx hb dX12_tokens_491 (by decide) (fun c_35 => ?_) (fun c_35 => ?_)
          · skip
            replace h := (if_pos c_35).symm.trans h
            refine lv_iconst (v := 3) hx hb dX12_tokens_499 (by decide) ?_
            exact B_500 cs1 u1 u2 u3 u5 u7 3 u2 h _ _ _ hP hD hS (lv_sub hl [1, 2, 3, 4, 6, 7] rfl)
          · skip
            replace h := (if_neg c_35).symm.trans h
            refine lv_iload hx hb dX12_tokens_494 (lv_at hl 5 rfl) ?_
            refine lv_goto (tgt := 500) hx hb dX12_tokens_496 (by decide) ?_
            exact B_500 cs1 u1 u2 u3 u5 u7 u4 u2 h _ _ _ hP hD hS (lv_sub hl [1, 2, 3, 4, 6, 7] rfl)
        · skip
          replace h := (if_neg c_34).symm.trans h
          refine lv_iload hx hb dX12_tokens_484 (lv_at hl 7 rfl) ?_
          refine lv_goto (tgt := 500) hx hb dX12_tokens_486 (by decide) ?_
          exact B_500 cs1 u1 u2 u3 u5 u7 u7 u2 h _ _ _ hP hD hS (lv_sub hl [1, 2, 3, 4, 6, 7] rfl)
      have B_467 : ∀ (cs1 : RS) (u1 : Int32) (u2 : Int32) (u3 : Int32) (u4 : Int32) (u5 : Int32) (u7 : Int32), m_tokens_b467 F (m_tokens_L9 F lf_9) cs1 u1 u2 u3 u4 u5 u7 = some cs9 → ∀ (H : Heap) (locs : List Loc) (ls : Array Slot), va_P (dC, dI) vwCl (mW cB cI cJ cZ h0 a cs1) H → va_D A (mW cB cI cJ cZ h0 a cs1) → va_S A s.heap H locs → lv_has ls 9 [(0, .ref h0), (1, .int u1), (2, .int u2), (3, .int u3), (4, .int u4), (5, .int u5), (7, .int u7)] → W p l e (headSpec (wsOf yX12_tokens cX12_tokens 9 none) ({ frames := 1, cells := 0, slots := 0, locals := 60 * (1) } : Room)).room s m ([.ref h0] : List Value).toArray below meth c H locs 0 0 (MQ below (va_Qv (fun (_ : Unit) => True) (fun _ t_ => va_P (dC, dI) vwCl (mW cB cI cJ cZ h0 a cs9) t_.heap ∧ va_D A (mW cB cI cJ cZ h0 a cs9)) A) ([.ref h0] : List Value).toArray s 0 0 A) (F0 m 467 ls []) := by
        intro cs1 u1 u2 u3 u4 u5 u7 h H locs ls hP hD hS hl
        unfold m_tokens_b467 at h
        refine lv_iconst (v := 1) hx hb dX12_tokens_467 (by decide) ?_
        refine lv_goto (tgt := 472) hx hb dX12_tokens_468 (by decide) ?_
        exact B_472 cs1 u1 u2 u3 u4 u5 u7 1 h _ _ _ hP hD hS (lv_sub hl [0, 1, 2, 3, 4, 5, 6] rfl)
      have B_381 : ∀ (cs1 : RS) (u1 : Int32) (u2 : Int32) (u3 : Int32) (u4 : Int32) (u5 : Int32) (y0 : Int32), m_tokens_b381 F (m_tokens_L9 F lf_9) cs1 u1 u2 u3 u4 u5 y0 = some cs9 → ∀ (H : Heap) (locs : List Loc) (ls : Array Slot), va_P (dC, dI) vwCl (mW cB cI cJ cZ h0 a cs1) H → va_D A (mW cB cI cJ cZ h0 a cs1) → va_S A s.heap H locs → lv_has ls 9 [(0, .ref h0), (1, .int u1), (2, .int u2), (3, .int u3), (4, .int u4), (5, .int u5)] → W p l e (headSpec (wsOf yX12_tokens cX12_tokens 9 none) ({ frames := 1, cells := 0, slots := 0, locals := 60 * (1) } : Room)).room s m ([.ref h0] : List Value).toArray below meth c H locs 0 0 (MQ below (va_Qv (fun (_ : Unit) => True) (fun _ t_ => va_P (dC, dI) vwCl (mW cB cI cJ cZ h0 a cs9) t_.heap ∧ va_D A (mW cB cI cJ cZ h0 a cs9)) A) ([.ref h0] : List Value).toArray s 0 0 A) (F0 m 381 ls [.int y0]) := by
        intro cs1 u1 u2 u3 u4 u5 y0 h H locs ls hP hD hS hl
        unfold m_tokens_b381 at h
        refine lv_istore (lv' := [(7, .int y0), (0, .ref h0), (1, .int u1), (2, .int u2), (3, .int u3), (4, .int u4), (5, .int u5)]) hx hb dX12_tokens_381 hl (by decide) rfl (fun ls hl => ?_)
        refine lv_iload hx hb dX12_tokens_383 (lv_at hl 5 rfl) ?_
        refine lv_bipush (v := 40) hx hb dX12_tokens_385 (by decide) ?_
        refine lv_icmp_eq (tgt := 467) hx hb dX12_tokens_387 (by decide) (fun c_36 => ?_) (fun c_36 => ?_)
        · skip
          replace h := (if_pos c_36).symm.trans h
          exact B_467 cs1 u1 u2 u3 u4 u5 y0 h _ _ _ hP hD hS (lv_sub hl [1, 2, 3, 4, 5, 6, 0] rfl)
        · skip
          replace h := (if_neg c_36).symm.trans h
          refine lv_iload hx hb dX12_tokens_390 (lv_at hl 5 rfl) ?_
          refine lv_bipush (v := 41) hx hb dX12_tokens_392 (by decide) ?_
          refine lv_icmp_eq (tgt := 467) hx hb dX12_tokens_394 (by decide) (fun c_37 => ?_) (fun c_37 => ?_)
          · skip
            replace h := (if_pos c_37).symm.trans h
            exact B_467 cs1 u1 u2 u3 u4 u5 y0 h _ _ _ hP hD hS (lv_sub hl [1, 2, 3, 4, 5, 6, 0] rfl)
          · skip
            replace h := (if_neg c_37).symm.trans h
            refine lv_iload hx hb dX12_tokens_397 (lv_at hl 5 rfl) ?_
            refine lv_bipush (v := 44) hx hb dX12_tokens_399 (by decide) ?_
            refine lv_icmp_eq (tgt := 467) hx hb dX12_tokens_401 (by decide) (fun c_38 => ?_) (fun c_38 => ?_)
            · skip
              replace h := (if_pos c_38).symm.trans h
              exact B_467 cs1 u1 u2 u3 u4 u5 y0 h _ _ _ hP hD hS (lv_sub hl [1, 2, 3, 4, 5, 6, 0] rfl)
            · skip
              replace h := (if_neg c_38).symm.trans h
              refine lv_iload hx hb dX12_tokens_404 (lv_at hl 5 rfl) ?_
              refine lv_bipush (v := 46) hx hb dX12_tokens_406 (by decide) ?_
              refine lv_icmp_eq (tgt := 467) hx hb dX12_tokens_408 (by decide) (fun c_39 => ?_) (fun c_39 => ?_)
              · skip
                replace h := (if_pos c_39).symm.trans h
                exact B_467 cs1 u1 u2 u3 u4 u5 y0 h _ _ _ hP hD hS (lv_sub hl [1, 2, 3, 4, 5, 6, 0] rfl)
              · skip
                replace h := (if_neg c_39).symm.trans h
                refine lv_iload hx hb dX12_tokens_411 (lv_at hl 5 rfl) ?_
                refine lv_bipush (v := 43) hx hb dX12_tokens_413 (by decide) ?_
                refine lv_icmp_eq (tgt := 467) hx hb dX12_tokens_415 (by decide) (fun c_40 => ?_) (fun c_40 => ?_)
                · skip
                  replace h := (if_pos c_40).symm.trans h
                  exact B_467 cs1 u1 u2 u3 u4 u5 y0 h _ _ _ hP hD hS (lv_sub hl [1, 2, 3, 4, 5, 6, 0] rfl)
                · skip
                  replace h := (if_neg c_40).symm.trans h
                  refine lv_iload hx hb dX12_tokens_418 (lv_at hl 5 rfl) ?_
                  refine lv_bipush (v := 45) hx hb dX12_tokens_420 (by decide) ?_
                  refine lv_icmp_eq (tgt := 467) hx hb dX12_tokens_422 (by decide) (fun c_41 => ?_) (fun c_41 => ?_)
                  · skip
                    replace h := (if_pos c_41).symm.trans h
                    exact B_467 cs1 u1 u2 u3 u4 u5 y0 h _ _ _ hP hD hS (lv_sub hl [1, 2, 3, 4, 5, 6, 0] rfl)
                  · skip
                    replace h := (if_neg c_41).symm.trans h
                    refine lv_iload hx hb dX12_tokens_425 (lv_at hl 5 rfl) ?_
                    refine lv_bipush (v := 42) hx hb dX12_tokens_427 (by decide) ?_
                    refine lv_icmp_eq (tgt := 467) hx hb dX12_tokens_429 (by decide) (fun c_42 => ?_) (fun c_42 => ?_)
                    · skip
                      replace h := (if_pos c_42).symm.trans h
                      exact B_467 cs1 u1 u2 u3 u4 u5 y0 h _ _ _ hP hD hS (lv_sub hl [1, 2, 3, 4, 5, 6, 0] rfl)
                    · skip
                      replace h := (if_neg c_42).symm.trans h
                      refine lv_iload hx hb dX12_tokens_432 (lv_at hl 5 rfl) ?_
                      refine lv_bipush (v := 47) hx hb dX12_tokens_434 (by decide) ?_
                      refine lv_icmp_eq (tgt := 467) hx hb dX12_tokens_436 (by decide) (fun c_43 => ?_) (fun c_43 => ?_)
                      · skip
                        replace h := (if_pos c_43).symm.trans h
                        exact B_467 cs1 u1 u2 u3 u4 u5 y0 h _ _ _ hP hD hS (lv_sub hl [1, 2, 3, 4, 5, 6, 0] rfl)
                      · skip
                        replace h := (if_neg c_43).symm.trans h
                        refine lv_iload hx hb dX12_tokens_439 (lv_at hl 5 rfl) ?_
                        refine lv_bipush (v := 37) hx hb dX12_tokens_441 (by decide) ?_
                        refine lv_icmp_eq (tgt := 467) hx hb dX12_tokens_443 (by decide) (fun c_44 => ?_) (fun c_44 => ?_)
                        · skip
                          replace h := (if_pos c_44).symm.trans h
                          exact B_467 cs1 u1 u2 u3 u4 u5 y0 h _ _ _ hP hD hS (lv_sub hl [1, 2, 3, 4, 5, 6, 0] rfl)
                        · skip
                          replace h := (if_neg c_44).symm.trans h
                          refine lv_iload hx hb dX12_tokens_446 (lv_at hl 5 rfl) ?_
                          refine lv_bipush (v := 61) hx hb dX12_tokens_448 (by decide) ?_
                          refine lv_icmp_eq (tgt := 467) hx hb dX12_tokens_450 (by decide) (fun c_45 => ?_) (fun c_45 => ?_)
                          · skip
                            replace h := (if_pos c_45).symm.trans h
                            exact B_467 cs1 u1 u2 u3 u4 u5 y0 h _ _ _ hP hD hS (lv_sub hl [1, 2, 3, 4, 5, 6, 0] rfl)
                          · skip
                            replace h := (if_neg c_45).symm.trans h
                            refine lv_iload hx hb dX12_tokens_453 (lv_at hl 5 rfl) ?_
                            refine lv_bipush (v := 60) hx hb dX12_tokens_455 (by decide) ?_
                            refine lv_icmp_eq (tgt := 467) hx hb dX12_tokens_457 (by decide) (fun c_46 => ?_) (fun c_46 => ?_)
                            · skip
                              replace h := (if_pos c_46).symm.trans h
                              exact B_467 cs1 u1 u2 u3 u4 u5 y0 h _ _ _ hP hD hS (lv_sub hl [1, 2, 3, 4, 5, 6, 0] rfl)
                            · skip
                              replace h := (if_neg c_46).symm.trans h
                              refine lv_iload hx hb dX12_tokens_460 (lv_at hl 5 rfl) ?_
                              refine lv_bipush (v := 62) hx hb dX12_tokens_462 (by decide) ?_
                              refine lv_icmp_ne (tgt := 471) hx hb dX12_tokens_464 (by decide) (fun c_47 => ?_) (fun c_47 => ?_)
                              · skip
                                replace h := (if_neg c_47).symm.trans h
                                refine lv_iconst (v := 0) hx hb dX12_tokens_471 (by decide) ?_
                                exact B_472 cs1 u1 u2 u3 u4 u5 y0 0 h _ _ _ hP hD hS (lv_sub hl [1, 2, 3, 4, 5, 6, 0] rfl)
                              · skip
                                replace h := (if_pos c_47).symm.trans h
                                exact B_467 cs1 u1 u2 u3 u4 u5 y0 h _ _ _ hP hD hS (lv_sub hl [1, 2, 3, 4, 5, 6, 0] rfl)
      have B_380 : ∀ (cs1 : RS) (u1 : Int32) (u2 : Int32) (u3 : Int32) (u4 : Int32) (u5 : Int32), m_tokens_b380 F (m_tokens_L9 F lf_9) cs1 u1 u2 u3 u4 u5 = some cs9 → ∀ (H : Heap) (locs : List Loc) (ls : Array Slot), va_P (dC, dI) vwCl (mW cB cI cJ cZ h0 a cs1) H → va_D A (mW cB cI cJ cZ h0 a cs1) → va_S A s.heap H locs → lv_has ls 9 [(0, .ref h0), (1, .int u1), (2, .int u2), (3, .int u3), (4, .int u4), (5, .int u5)] → W p l e (headSpec (wsOf yX12_tokens cX12_tokens 9 none) ({ frames := 1, cells := 0, slots := 0, locals := 60 * (1) } : Room)).room s m ([.ref h0] : List Value).toArray below meth c H locs 0 0 (MQ below (va_Qv (fun (_ : Unit) => True) (fun _ t_ => va_P (dC, dI) vwCl (mW cB cI cJ cZ h0 a cs9) t_.heap ∧ va_D A (mW cB cI cJ cZ h0 a cs9)) A) ([.ref h0] : List Value).toArray s 0 0 A) (F0 m 380 ls []) := by
        intro cs1 u1 u2 u3 u4 u5 h H locs ls hP hD hS hl
        unfold m_tokens_b380 at h
        refine lv_iconst (v := 0) hx hb dX12_tokens_380 (by decide) ?_
        exact B_381 cs1 u1 u2 u3 u4 u5 0 h _ _ _ hP hD hS (lv_sub hl [0, 1, 2, 3, 4, 5] rfl)
      have B_360 : ∀ (cs1 : RS) (u1 : Int32) (u2 : Int32) (u3 : Int32) (u4 : Int32) (u5 : Int32) (u6 : Int32), m_tokens_b360 F (m_tokens_L9 F lf_9) cs1 u1 u2 u3 u4 u5 u6 = some cs9 → ∀ (H : Heap) (locs : List Loc) (ls : Array Slot), va_P (dC, dI) vwCl (mW cB cI cJ cZ h0 a cs1) H → va_D A (mW cB cI cJ cZ h0 a cs1) → va_S A s.heap H locs → lv_has ls 9 [(0, .ref h0), (1, .int u1), (2, .int u2), (3, .int u3), (4, .int u4), (5, .int u5), (6, .int u6)] → W p l e (headSpec (wsOf yX12_tokens cX12_tokens 9 none) ({ frames := 1, cells := 0, slots := 0, locals := 60 * (1) } : Room)).room s m ([.ref h0] : List Value).toArray below meth c H locs 0 0 (MQ below (va_Qv (fun (_ : Unit) => True) (fun _ t_ => va_P (dC, dI) vwCl (mW cB cI cJ cZ h0 a cs9) t_.heap ∧ va_D A (mW cB cI cJ cZ h0 a cs9)) A) ([.ref h0] : List Value).toArray s 0 0 A) (F0 m 360 ls []) := by
        intro cs1 u1 u2 u3 u4 u5 u6 h H locs ls hP hD hS hl
        unfold m_tokens_b360 at h
        refine lv_iload hx hb dX12_tokens_360 (lv_at hl 4 rfl) ?_
        refine lv_bipush (v := 62) hx hb dX12_tokens_362 (by decide) ?_
        refine lv_icmp_ne (tgt := 380) hx hb dX12_tokens_364 (by decide) (fun c_48 => ?_) (fun c_48 => ?_)
        · skip
          replace h := (if_neg c_48).symm.trans h
          exact B_380 cs1 u1 u2 u3 u4 u5 h _ _ _ hP hD hS (lv_sub hl [0, 1, 2, 3, 4, 5] rfl)
        · skip
          replace h := (if_pos c_48).symm.trans h
          refine lv_iload hx hb dX12_tokens_367 (lv_at hl 6 rfl) ?_
          refine lv_bipush (v := 61) hx hb dX12_tokens_369 (by decide) ?_
          refine lv_icmp_ne (tgt := 380) hx hb dX12_tokens_371 (by decide) (fun c_49 => ?_) (fun c_49 => ?_)
          · skip
            replace h := (if_neg c_49).symm.trans h
            exact B_380 cs1 u1 u2 u3 u4 u5 h _ _ _ hP hD hS (lv_sub hl [0, 1, 2, 3, 4, 5] rfl)
          · skip
            replace h := (if_pos c_49).symm.trans h
            refine lv_sipush (v := 402) hx hb dX12_tokens_374 (by decide) ?_
            refine lv_goto (tgt := 381) hx hb dX12_tokens_377 (by decide) ?_
            exact B_381 cs1 u1 u2 u3 u4 u5 402 h _ _ _ hP hD hS (lv_sub hl [0, 1, 2, 3, 4, 5] rfl)
      have B_340 : ∀ (cs1 : RS) (u1 : Int32) (u2 : Int32) (u3 : Int32) (u4 : Int32) (u5 : Int32) (u6 : Int32), m_tokens_b340 F (m_tokens_L9 F lf_9) cs1 u1 u2 u3 u4 u5 u6 = some cs9 → ∀ (H : Heap) (locs : List Loc) (ls : Array Slot), va_P (dC, dI) vwCl (mW cB cI cJ cZ h0 a cs1) H → va_D A (mW cB cI cJ cZ h0 a cs1) → va_S A s.heap H locs → lv_has ls 9 [(0, .ref h0), (1, .int u1), (2, .int u2), (3, .int u3), (4, .int u4), (5, .int u5), (6, .int u6)] → W p l e (headSpec (wsOf yX12_tokens cX12_tokens 9 none) ({ frames := 1, cells := 0, slots := 0, locals := 60 * (1) } : Room)).room s m ([.ref h0] : List Value).toArray below meth c H locs 0 0 (MQ below (va_Qv (fun (_ : Unit) => True) (fun _ t_ => va_P (dC, dI) vwCl (mW cB cI cJ cZ h0 a cs9) t_.heap ∧ va_D A (mW cB cI cJ cZ h0 a cs9)) A) ([.ref h0] : List Value).toArray s 0 0 A) (F0 m 340 ls []) := by
        intro cs1 u1 u2 u3 u4 u5 u6 h H locs ls hP hD hS hl
        unfold m_tokens_b340 at h
        refine lv_iload hx hb dX12_tokens_340 (lv_at hl 4 rfl) ?_
        refine lv_bipush (v := 60) hx hb dX12_tokens_342 (by decide) ?_
        refine lv_icmp_ne (tgt := 360) hx hb dX12_tokens_344 (by decide) (fun c_50 => ?_) (fun c_50 => ?_)
        · skip
          replace h := (if_neg c_50).symm.trans h
          exact B_360 cs1 u1 u2 u3 u4 u5 u6 h _ _ _ hP hD hS (lv_sub hl [0, 1, 2, 3, 4, 5, 6] rfl)
        · skip
          replace h := (if_pos c_50).symm.trans h
          refine lv_iload hx hb dX12_tokens_347 (lv_at hl 6 rfl) ?_
          refine lv_bipush (v := 61) hx hb dX12_tokens_349 (by decide) ?_
          refine lv_icmp_ne (tgt := 360) hx hb dX12_tokens_351 (by decide) (fun c_51 => ?_) (fun c_51 => ?_)
          · skip
            replace h := (if_neg c_51).symm.trans h
            exact B_360 cs1 u1 u2 u3 u4 u5 u6 h _ _ _ hP hD hS (lv_sub hl [0, 1, 2, 3, 4, 5, 6] rfl)
          · skip
            replace h := (if_pos c_51).symm.trans h
            refine lv_sipush (v := 401) hx hb dX12_tokens_354 (by decide) ?_
            refine lv_goto (tgt := 381) hx hb dX12_tokens_357 (by decide) ?_
            exact B_381 cs1 u1 u2 u3 u4 u5 401 h _ _ _ hP hD hS (lv_sub hl [0, 1, 2, 3, 4, 5] rfl)
      have B_318 : ∀ (cs1 : RS) (u1 : Int32) (u2 : Int32) (u3 : Int32) (u4 : Int32) (u5 : Int32) (y0 : Int32), m_tokens_b318 F (m_tokens_L9 F lf_9) cs1 u1 u2 u3 u4 u5 y0 = some cs9 → ∀ (H : Heap) (locs : List Loc) (ls : Array Slot), va_P (dC, dI) vwCl (mW cB cI cJ cZ h0 a cs1) H → va_D A (mW cB cI cJ cZ h0 a cs1) → va_S A s.heap H locs → lv_has ls 9 [(0, .ref h0), (1, .int u1), (2, .int u2), (3, .int u3), (4, .int u4), (5, .int u5)] → W p l e (headSpec (wsOf yX12_tokens cX12_tokens 9 none) ({ frames := 1, cells := 0, slots := 0, locals := 60 * (1) } : Room)).room s m ([.ref h0] : List Value).toArray below meth c H locs 0 0 (MQ below (va_Qv (fun (_ : Unit) => True) (fun _ t_ => va_P (dC, dI) vwCl (mW cB cI cJ cZ h0 a cs9) t_.heap ∧ va_D A (mW cB cI cJ cZ h0 a cs9)) A) ([.ref h0] : List Value).toArray s 0 0 A) (F0 m 318 ls [.int y0]) := by
        intro cs1 u1 u2 u3 u4 u5 y0 h H locs ls hP hD hS hl
        unfold m_tokens_b318 at h
        refine lv_istore (lv' := [(6, .int y0), (0, .ref h0), (1, .int u1), (2, .int u2), (3, .int u3), (4, .int u4), (5, .int u5)]) hx hb dX12_tokens_318 hl (by decide) rfl (fun ls hl => ?_)
        refine lv_iload hx hb dX12_tokens_320 (lv_at hl 5 rfl) ?_
        refine lv_bipush (v := 60) hx hb dX12_tokens_322 (by decide) ?_
        refine lv_icmp_ne (tgt := 340) hx hb dX12_tokens_324 (by decide) (fun c_52 => ?_) (fun c_52 => ?_)
        · skip
          replace h := (if_neg c_52).symm.trans h
          exact B_340 cs1 u1 u2 u3 u4 u5 y0 h _ _ _ hP hD hS (lv_sub hl [1, 2, 3, 4, 5, 6, 0] rfl)
        · skip
          replace h := (if_pos c_52).symm.trans h
          refine lv_iload hx hb dX12_tokens_327 (lv_at hl 0 rfl) ?_
          refine lv_bipush (v := 62) hx hb dX12_tokens_329 (by decide) ?_
          refine lv_icmp_ne (tgt := 340) hx hb dX12_tokens_331 (by decide) (fun c_53 => ?_) (fun c_53 => ?_)
          · skip
            replace h := (if_neg c_53).symm.trans h
            exact B_340 cs1 u1 u2 u3 u4 u5 y0 h _ _ _ hP hD hS (lv_sub hl [1, 2, 3, 4, 5, 6, 0] rfl)
          · skip
            replace h := (if_pos c_53).symm.trans h
            refine lv_sipush (v := 400) hx hb dX12_tokens_334 (by decide) ?_
            refine lv_goto (tgt := 381) hx hb dX12_tokens_337 (by decide) ?_
            exact B_381 cs1 u1 u2 u3 u4 u5 400 h _ _ _ hP hD hS (lv_sub hl [1, 2, 3, 4, 5, 6] rfl)
      intro cs1 u1 u2 u3 h H locs ls hP hD hS hl
      rw [m_tokens_L9] at h
      refine lv_iload_n hx hb dX12_tokens_9 rfl (lv_at hl 3 rfl) ?_
      refine lv_iload_n hx hb dX12_tokens_10 rfl (lv_at hl 1 rfl) ?_
      refine lv_icmp_ge (tgt := 530) hx hb dX12_tokens_11 (by decide) (fun c_54 => ?_) (fun c_54 => ?_)
      · skip
        replace h := (if_pos c_54).symm.trans h
        refine lv_aload_n hx hb dX12_tokens_530 rfl (lv_at hl 0 rfl) ?_
        refine fg_14 hx hb hts hown hK hP dX12_tokens_531 ?_
        refine lv_iload_n hx hb dX12_tokens_534 rfl (lv_at hl 2 rfl) ?_
        refine lv_iconst (v := 0) hx hb dX12_tokens_535 (by decide) ?_
        obtain ⟨cs_55, hv_55, h⟩ := ob h
        refine ap_14 hx hb hK hP hD hS hv_55 dX12_tokens_536 (fun H locs hP hD hS => ?_)
        refine lv_aload_n hx hb dX12_tokens_537 rfl (lv_at hl 0 rfl) ?_
        refine fg_15 hx hb hts hown hK hP dX12_tokens_538 ?_
        refine lv_iload_n hx hb dX12_tokens_541 rfl (lv_at hl 2 rfl) ?_
        refine lv_iload_n hx hb dX12_tokens_542 rfl (lv_at hl 1 rfl) ?_
        obtain ⟨cs_56, hv_56, h⟩ := ob h
        refine ap_15 hx hb hK hP hD hS hv_56 dX12_tokens_543 (fun H locs hP hD hS => ?_)
        refine lv_aload_n hx hb dX12_tokens_544 rfl (lv_at hl 0 rfl) ?_
        refine fg_16 hx hb hts hown hK hP dX12_tokens_545 ?_
        refine lv_iload_n hx hb dX12_tokens_548 rfl (lv_at hl 2 rfl) ?_
        refine lv_iconst (v := 0) hx hb dX12_tokens_549 (by decide) ?_
        obtain ⟨cs_57, hv_57, h⟩ := ob h
        refine ap_16 hx hb hK hP hD hS hv_57 dX12_tokens_550 (fun H locs hP hD hS => ?_)
        have e1 := Option.some.inj h
        rw [e1] at hP hD
        exact W.vret hx hb hr (fun t_ ht hW => ⟨⟨(), rfl, trivial, by rw [ht]; exact hP, hD⟩, hS.F ht⟩) hS.2.2 dX12_tokens_551
      · skip
        replace h := (if_neg c_54).symm.trans h
        refine lv_aload_n hx hb dX12_tokens_14 rfl (lv_at hl 0 rfl) ?_
        refine fg_2 hx hb hts hown hK hP dX12_tokens_15 ?_
        refine lv_iload_n hx hb dX12_tokens_18 rfl (lv_at hl 3 rfl) ?_
        obtain ⟨v_58, hv_58, h⟩ := ob h
        refine ag_2 hx hb hK hP hv_58 dX12_tokens_19 ?_
        refine lv_istore (lv' := [(4, .int v_58), (0, .ref h0), (1, .int u1), (2, .int u2), (3, .int u3)]) hx hb dX12_tokens_20 hl (by decide) rfl (fun ls hl => ?_)
        refine lv_iload hx hb dX12_tokens_22 (lv_at hl 0 rfl) ?_
        refine lv_bipush (v := 32) hx hb dX12_tokens_24 (by decide) ?_
        refine lv_icmp_eq (tgt := 50) hx hb dX12_tokens_26 (by decide) (fun c_59 => ?_) (fun c_59 => ?_)
        · skip
          replace h := (if_pos c_59).symm.trans h
          exact B_50 cs1 u1 u2 u3 h _ _ _ hP hD hS (lv_sub hl [1, 2, 3, 4] rfl)
        · skip
          replace h := (if_neg c_59).symm.trans h
          refine lv_iload hx hb dX12_tokens_29 (lv_at hl 0 rfl) ?_
          refine lv_bipush (v := 9) hx hb dX12_tokens_31 (by decide) ?_
          refine lv_icmp_eq (tgt := 50) hx hb dX12_tokens_33 (by decide) (fun c_60 => ?_) (fun c_60 => ?_)
          · skip
            replace h := (if_pos c_60).symm.trans h
            exact B_50 cs1 u1 u2 u3 h _ _ _ hP hD hS (lv_sub hl [1, 2, 3, 4] rfl)
          · skip
            replace h := (if_neg c_60).symm.trans h
            refine lv_iload hx hb dX12_tokens_36 (lv_at hl 0 rfl) ?_
            refine lv_bipush (v := 13) hx hb dX12_tokens_38 (by decide) ?_
            refine lv_icmp_eq (tgt := 50) hx hb dX12_tokens_40 (by decide) (fun c_61 => ?_) (fun c_61 => ?_)
            · skip
              replace h := (if_pos c_61).symm.trans h
              exact B_50 cs1 u1 u2 u3 h _ _ _ hP hD hS (lv_sub hl [1, 2, 3, 4] rfl)
            · skip
              replace h := (if_neg c_61).symm.trans h
              refine lv_iload hx hb dX12_tokens_43 (lv_at hl 0 rfl) ?_
              refine lv_bipush (v := 10) hx hb dX12_tokens_45 (by decide) ?_
              refine lv_icmp_ne (tgt := 56) hx hb dX12_tokens_47 (by decide) (fun c_62 => ?_) (fun c_62 => ?_)
              · skip
                replace h := (if_neg c_62).symm.trans h
                refine lv_iload_n hx hb dX12_tokens_56 rfl (lv_at hl 4 rfl) ?_
                refine lv_istore (lv' := [(5, .int u3), (4, .int v_58), (0, .ref h0), (1, .int u1), (2, .int u2), (3, .int u3)]) hx hb dX12_tokens_57 hl (by decide) rfl (fun ls hl => ?_)
                refine lv_aload_n hx hb dX12_tokens_59 rfl (lv_at hl 2 rfl) ?_
                refine fg_15 hx hb hts hown hK hP dX12_tokens_60 ?_
                refine lv_iload_n hx hb dX12_tokens_63 rfl (lv_at hl 4 rfl) ?_
                refine lv_iload_n hx hb dX12_tokens_64 rfl (lv_at hl 5 rfl) ?_
                obtain ⟨cs_63, hv_63, h⟩ := ob h
                refine ap_15 hx hb hK hP hD hS hv_63 dX12_tokens_65 (fun H locs hP hD hS => ?_)
                refine lv_aload_n hx hb dX12_tokens_66 rfl (lv_at hl 2 rfl) ?_
                refine fg_17 hx hb hts hown hK hP dX12_tokens_67 ?_
                refine lv_iload_n hx hb dX12_tokens_70 rfl (lv_at hl 4 rfl) ?_
                refine lv_lconst (v := 0) hx hb dX12_tokens_71 (by decide) ?_
                obtain ⟨cs_64, hv_64, h⟩ := ob h
                refine ap_17 hx hb hK hP hD hS hv_64 dX12_tokens_72 (fun H locs hP hD hS => ?_)
                refine lv_iload hx hb dX12_tokens_73 (lv_at hl 1 rfl) ?_
                obtain ⟨v_65, hv_65, h⟩ := ob h
                refine calSI (As := [.int v_58]) hx hb hml hts hown hK hP hD hS hA hZ (s_isLetter l dC dI cB cI cJ cZ h0 a K V fz F cs_64 v_58 v_65 hv_65) (cw_isLetter hts (fr := 0) (Nat.le_of_ble_eq_true rfl) (Nat.le_of_ble_eq_true rfl)) rfl hl.1 (Nat.le_of_ble_eq_true rfl) ⟨Nat.zero_le _, Nat.zero_le _⟩ dX12_tokens_75 (fun H locs hP hD hS => ?_)
                refine lv_if_eq (tgt := 139) hx hb dX12_tokens_78 (by decide) (fun c_66 => ?_) (fun c_66 => ?_)
                · skip
                  replace h := (if_pos c_66).symm.trans h
                  refine lv_iload hx hb dX12_tokens_139 (lv_at hl 1 rfl) ?_
                  obtain ⟨v_67, hv_67, h⟩ := ob h
                  refine calSI (As := [.int v_58]) hx hb hml hts hown hK hP hD hS hA hZ (s_isDigit l dC dI cB cI cJ cZ h0 a K V fz F cs_64 v_58 v_67 hv_67) (cw_isDigit hts (fr := 0) (Nat.le_of_ble_eq_true rfl) (Nat.le_of_ble_eq_true rfl)) rfl hl.1 (Nat.le_of_ble_eq_true rfl) ⟨Nat.zero_le _, Nat.zero_le _⟩ dX12_tokens_141 (fun H locs hP hD hS => ?_)
                  refine lv_if_eq (tgt := 299) hx hb dX12_tokens_144 (by decide) (fun c_68 => ?_) (fun c_68 => ?_)
                  · skip
                    replace h := (if_pos c_68).symm.trans h
                    refine lv_iload_n hx hb dX12_tokens_299 rfl (lv_at hl 5 rfl) ?_
                    refine lv_iconst (v := 1) hx hb dX12_tokens_300 (by decide) ?_
                    refine lv_iadd hx hb dX12_tokens_301 ?_
                    refine lv_iload_n hx hb dX12_tokens_302 rfl (lv_at hl 3 rfl) ?_
                    refine lv_icmp_ge (tgt := 317) hx hb dX12_tokens_303 (by decide) (fun c_69 => ?_) (fun c_69 => ?_)
                    · skip
                      replace h := (if_pos c_69).symm.trans h
                      refine lv_iconst (v := 0) hx hb dX12_tokens_317 (by decide) ?_
                      exact B_318 cs_64 u1 u2 u3 v_58 u3 0 h _ _ _ hP hD hS (lv_sub hl [2, 3, 4, 5, 1, 0] rfl)
                    · skip
                      replace h := (if_neg c_69).symm.trans h
                      refine lv_aload_n hx hb dX12_tokens_306 rfl (lv_at hl 2 rfl) ?_
                      refine fg_2 hx hb hts hown hK hP dX12_tokens_307 ?_
                      refine lv_iload_n hx hb dX12_tokens_310 rfl (lv_at hl 5 rfl) ?_
                      refine lv_iconst (v := 1) hx hb dX12_tokens_311 (by decide) ?_
                      refine lv_iadd hx hb dX12_tokens_312 ?_
                      obtain ⟨v_70, hv_70, h⟩ := ob h
                      refine ag_2 hx hb hK hP hv_70 dX12_tokens_313 ?_
                      refine lv_goto (tgt := 318) hx hb dX12_tokens_314 (by decide) ?_
                      exact B_318 cs_64 u1 u2 u3 v_58 u3 v_70 h _ _ _ hP hD hS (lv_sub hl [2, 3, 4, 5, 1, 0] rfl)
                  · skip
                    replace h := (if_neg c_68).symm.trans h
                    refine lv_iconst (v := 1) hx hb dX12_tokens_147 (by decide) ?_
                    refine lv_istore (lv' := [(6, .int 1), (5, .int u3), (4, .int v_58), (0, .ref h0), (1, .int u1), (2, .int u2), (3, .int u3)]) hx hb dX12_tokens_148 hl (by decide) rfl (fun ls hl => ?_)
                    exact L_150 F cs_64 u1 u2 u3 u3 1 h _ _ _ hP hD hS (lv_sub hl [3, 4, 5, 6, 1, 0] rfl)
                · skip
                  replace h := (if_neg c_66).symm.trans h
                  exact L_81 F cs_64 u1 u2 u3 u3 h _ _ _ hP hD hS (lv_sub hl [2, 3, 4, 5, 0] rfl)
              · skip
                replace h := (if_pos c_62).symm.trans h
                exact B_50 cs1 u1 u2 u3 h _ _ _ hP hD hS (lv_sub hl [1, 2, 3, 4] rfl)
  have h := hf
  unfold m_tokens at h
  refine lv_aload_n hx hb dX12_tokens_0 rfl (lv_at hl 0 rfl) ?_
  refine fg_3 hx hb hts hown hK hP dX12_tokens_1 ?_
  refine lv_istore_n (lv' := [(1, .int (cs.1 3)), (0, .ref h0)]) hx hb dX12_tokens_4 rfl hl (by decide) rfl (fun ls hl => ?_)
  refine lv_iconst (v := 0) hx hb dX12_tokens_5 (by decide) ?_
  refine lv_istore_n (lv' := [(2, .int 0), (1, .int (cs.1 3)), (0, .ref h0)]) hx hb dX12_tokens_6 rfl hl (by decide) rfl (fun ls hl => ?_)
  refine lv_iconst (v := 0) hx hb dX12_tokens_7 (by decide) ?_
  refine lv_istore_n (lv' := [(3, .int 0), (2, .int 0), (1, .int (cs.1 3)), (0, .ref h0)]) hx hb dX12_tokens_8 rfl hl (by decide) rfl (fun ls hl => ?_)
  exact L_9 F cs (cs.1 3) 0 0 h _ _ _ hP hD hS (lv_sub hl [3, 2, 1, 0] rfl)
theorem cw_tokens {R : Room} {s : State} {args : Array Value} {y0 : MethodName} {c0 : ByteArray} {n0 : Nat} {r0 : Option FieldType} (hts : ∀ w ∈ wsOf y0 c0 n0 r0, w.before args s = true) {fr : Nat} (h1 : fr + 1 ≤ R.frames) (h2 : 8 + (9 + 11) + 60 * fr ≤ R.locals) : CallW R s args RX12 RX12 574 yX12_tokens cX12_tokens 9 none (wsOf yX12_tokens cX12_tokens 9 none) ({ frames := fr, cells := 0, slots := 0, locals := 60 * fr } : Room) 0 0 0 := cwV 0 hts (gd_all (in_V kw_2228 kw_2230 kw_133 kw_191 kc_X12_tokens)) rfl rfl rfl (by decide +kernel) ⟨h1, h2⟩
