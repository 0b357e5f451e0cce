/-! the reference, mirrored: queryOf, selectOf, source -/
abbrev TG_queryOf : Type := (RS → Option (RS × Int32)) × (RS → Option (RS × Int32)) × (RS → Int32 → Int32 → Int32 → Option RS)
theorem dX12_queryOf_0 : decode cX12_queryOf 0 = .ok (.aload_n 0, 1) := by decide +kernel
theorem dX12_queryOf_1 : decode cX12_queryOf 1 = .ok (.getfield 453, 3) := by decide +kernel
theorem dX12_queryOf_4 : decode cX12_queryOf 4 = .ok (.istore_n 1, 1) := by decide +kernel
theorem dX12_queryOf_5 : decode cX12_queryOf 5 = .ok (.aload_n 0, 1) := by decide +kernel
theorem dX12_queryOf_6 : decode cX12_queryOf 6 = .ok (.dup, 1) := by decide +kernel
theorem dX12_queryOf_7 : decode cX12_queryOf 7 = .ok (.getfield 453, 3) := by decide +kernel
theorem dX12_queryOf_10 : decode cX12_queryOf 10 = .ok (.iconst 1, 1) := by decide +kernel
theorem dX12_queryOf_11 : decode cX12_queryOf 11 = .ok (.iadd, 1) := by decide +kernel
theorem dX12_queryOf_12 : decode cX12_queryOf 12 = .ok (.putfield 453, 3) := by decide +kernel
theorem dX12_queryOf_15 : decode cX12_queryOf 15 = .ok (.aload_n 0, 1) := by decide +kernel
theorem dX12_queryOf_16 : decode cX12_queryOf 16 = .ok (.getfield 157, 3) := by decide +kernel
theorem dX12_queryOf_19 : decode cX12_queryOf 19 = .ok (.iload_n 1, 1) := by decide +kernel
theorem dX12_queryOf_20 : decode cX12_queryOf 20 = .ok (.iconst 0, 1) := by decide +kernel
theorem dX12_queryOf_21 : decode cX12_queryOf 21 = .ok (.iastore, 1) := by decide +kernel
theorem dX12_queryOf_22 : decode cX12_queryOf 22 = .ok (.aload_n 0, 1) := by decide +kernel
theorem dX12_queryOf_23 : decode cX12_queryOf 23 = .ok (.getfield 169, 3) := by decide +kernel
theorem dX12_queryOf_26 : decode cX12_queryOf 26 = .ok (.iload_n 1, 1) := by decide +kernel
theorem dX12_queryOf_27 : decode cX12_queryOf 27 = .ok (.iconst 0, 1) := by decide +kernel
theorem dX12_queryOf_28 : decode cX12_queryOf 28 = .ok (.iastore, 1) := by decide +kernel
theorem dX12_queryOf_29 : decode cX12_queryOf 29 = .ok (.aload_n 0, 1) := by decide +kernel
theorem dX12_queryOf_30 : decode cX12_queryOf 30 = .ok (.getfield 181, 3) := by decide +kernel
theorem dX12_queryOf_33 : decode cX12_queryOf 33 = .ok (.iload_n 1, 1) := by decide +kernel
theorem dX12_queryOf_34 : decode cX12_queryOf 34 = .ok (.iconst (-1), 1) := by decide +kernel
theorem dX12_queryOf_35 : decode cX12_queryOf 35 = .ok (.iastore, 1) := by decide +kernel
theorem dX12_queryOf_36 : decode cX12_queryOf 36 = .ok (.aload_n 0, 1) := by decide +kernel
theorem dX12_queryOf_37 : decode cX12_queryOf 37 = .ok (.getfield 172, 3) := by decide +kernel
theorem dX12_queryOf_40 : decode cX12_queryOf 40 = .ok (.iload_n 1, 1) := by decide +kernel
theorem dX12_queryOf_41 : decode cX12_queryOf 41 = .ok (.iconst (-1), 1) := by decide +kernel
theorem dX12_queryOf_42 : decode cX12_queryOf 42 = .ok (.iastore, 1) := by decide +kernel
theorem dX12_queryOf_43 : decode cX12_queryOf 43 = .ok (.iconst 1, 1) := by decide +kernel
theorem dX12_queryOf_44 : decode cX12_queryOf 44 = .ok (.istore_n 2, 1) := by decide +kernel
theorem dX12_queryOf_45 : decode cX12_queryOf 45 = .ok (.iconst 0, 1) := by decide +kernel
theorem dX12_queryOf_46 : decode cX12_queryOf 46 = .ok (.istore_n 3, 1) := by decide +kernel
theorem dX12_queryOf_47 : decode cX12_queryOf 47 = .ok (.iconst 0, 1) := by decide +kernel
theorem dX12_queryOf_48 : decode cX12_queryOf 48 = .ok (.istore 4, 2) := by decide +kernel
theorem dX12_queryOf_50 : decode cX12_queryOf 50 = .ok (.iload_n 2, 1) := by decide +kernel
theorem dX12_queryOf_51 : decode cX12_queryOf 51 = .ok (.ifCond .eq 146, 3) := by decide +kernel
theorem dX12_queryOf_54 : decode cX12_queryOf 54 = .ok (.aload_n 0, 1) := by decide +kernel
theorem dX12_queryOf_55 : decode cX12_queryOf 55 = .ok (.getfield 292, 3) := by decide +kernel
theorem dX12_queryOf_58 : decode cX12_queryOf 58 = .ok (.ifCond .eq 139, 3) := by decide +kernel
theorem dX12_queryOf_61 : decode cX12_queryOf 61 = .ok (.aload_n 0, 1) := by decide +kernel
theorem dX12_queryOf_62 : decode cX12_queryOf 62 = .ok (.invokevirtual 456, 3) := by decide +kernel
theorem dX12_queryOf_65 : decode cX12_queryOf 65 = .ok (.istore 5, 2) := by decide +kernel
theorem dX12_queryOf_67 : decode cX12_queryOf 67 = .ok (.iconst 5, 1) := by decide +kernel
theorem dX12_queryOf_68 : decode cX12_queryOf 68 = .ok (.iload_n 1, 1) := by decide +kernel
theorem dX12_queryOf_69 : decode cX12_queryOf 69 = .ok (.imul, 1) := by decide +kernel
theorem dX12_queryOf_70 : decode cX12_queryOf 70 = .ok (.aload_n 0, 1) := by decide +kernel
theorem dX12_queryOf_71 : decode cX12_queryOf 71 = .ok (.getfield 157, 3) := by decide +kernel
theorem dX12_queryOf_74 : decode cX12_queryOf 74 = .ok (.iload_n 1, 1) := by decide +kernel
theorem dX12_queryOf_75 : decode cX12_queryOf 75 = .ok (.iaload, 1) := by decide +kernel
theorem dX12_queryOf_76 : decode cX12_queryOf 76 = .ok (.iadd, 1) := by decide +kernel
theorem dX12_queryOf_77 : decode cX12_queryOf 77 = .ok (.istore 6, 2) := by decide +kernel
theorem dX12_queryOf_79 : decode cX12_queryOf 79 = .ok (.aload_n 0, 1) := by decide +kernel
theorem dX12_queryOf_80 : decode cX12_queryOf 80 = .ok (.getfield 292, 3) := by decide +kernel
theorem dX12_queryOf_83 : decode cX12_queryOf 83 = .ok (.ifCond .eq 39, 3) := by decide +kernel
theorem dX12_queryOf_86 : decode cX12_queryOf 86 = .ok (.aload_n 0, 1) := by decide +kernel
theorem dX12_queryOf_87 : decode cX12_queryOf 87 = .ok (.getfield 160, 3) := by decide +kernel
theorem dX12_queryOf_90 : decode cX12_queryOf 90 = .ok (.iload 6, 2) := by decide +kernel
theorem dX12_queryOf_92 : decode cX12_queryOf 92 = .ok (.iload 5, 2) := by decide +kernel
theorem dX12_queryOf_94 : decode cX12_queryOf 94 = .ok (.iastore, 1) := by decide +kernel
theorem dX12_queryOf_95 : decode cX12_queryOf 95 = .ok (.aload_n 0, 1) := by decide +kernel
theorem dX12_queryOf_96 : decode cX12_queryOf 96 = .ok (.getfield 163, 3) := by decide +kernel
theorem dX12_queryOf_99 : decode cX12_queryOf 99 = .ok (.iload 6, 2) := by decide +kernel
theorem dX12_queryOf_101 : decode cX12_queryOf 101 = .ok (.iload_n 3, 1) := by decide +kernel
theorem dX12_queryOf_102 : decode cX12_queryOf 102 = .ok (.iastore, 1) := by decide +kernel
theorem dX12_queryOf_103 : decode cX12_queryOf 103 = .ok (.aload_n 0, 1) := by decide +kernel
theorem dX12_queryOf_104 : decode cX12_queryOf 104 = .ok (.getfield 166, 3) := by decide +kernel
theorem dX12_queryOf_107 : decode cX12_queryOf 107 = .ok (.iload 6, 2) := by decide +kernel
theorem dX12_queryOf_109 : decode cX12_queryOf 109 = .ok (.iload 4, 2) := by decide +kernel
theorem dX12_queryOf_111 : decode cX12_queryOf 111 = .ok (.iastore, 1) := by decide +kernel
theorem dX12_queryOf_112 : decode cX12_queryOf 112 = .ok (.aload_n 0, 1) := by decide +kernel
theorem dX12_queryOf_113 : decode cX12_queryOf 113 = .ok (.getfield 157, 3) := by decide +kernel
theorem dX12_queryOf_116 : decode cX12_queryOf 116 = .ok (.iload_n 1, 1) := by decide +kernel
theorem dX12_queryOf_117 : decode cX12_queryOf 117 = .ok (.dup2, 1) := by decide +kernel
theorem dX12_queryOf_118 : decode cX12_queryOf 118 = .ok (.iaload, 1) := by decide +kernel
theorem dX12_queryOf_119 : decode cX12_queryOf 119 = .ok (.iconst 1, 1) := by decide +kernel
theorem dX12_queryOf_120 : decode cX12_queryOf 120 = .ok (.iadd, 1) := by decide +kernel
theorem dX12_queryOf_121 : decode cX12_queryOf 121 = .ok (.iastore, 1) := by decide +kernel
theorem dX12_queryOf_122 : decode cX12_queryOf 122 = .ok (.aload_n 0, 1) := by decide +kernel
theorem dX12_queryOf_123 : decode cX12_queryOf 123 = .ok (.getfield 43, 3) := by decide +kernel
theorem dX12_queryOf_126 : decode cX12_queryOf 126 = .ok (.aload_n 0, 1) := by decide +kernel
theorem dX12_queryOf_127 : decode cX12_queryOf 127 = .ok (.getfield 302, 3) := by decide +kernel
theorem dX12_queryOf_130 : decode cX12_queryOf 130 = .ok (.iaload, 1) := by decide +kernel
theorem dX12_queryOf_131 : decode cX12_queryOf 131 = .ok (.istore 4, 2) := by decide +kernel
theorem dX12_queryOf_133 : decode cX12_queryOf 133 = .ok (.aload_n 0, 1) := by decide +kernel
theorem dX12_queryOf_134 : decode cX12_queryOf 134 = .ok (.ldc_w 459, 3) := by decide +kernel
theorem dX12_queryOf_137 : decode cX12_queryOf 137 = .ok (.invokevirtual 326, 3) := by decide +kernel
theorem dX12_queryOf_140 : decode cX12_queryOf 140 = .ok (.ifCond .eq 22, 3) := by decide +kernel
theorem dX12_queryOf_143 : decode cX12_queryOf 143 = .ok (.aload_n 0, 1) := by decide +kernel
theorem dX12_queryOf_144 : decode cX12_queryOf 144 = .ok (.ldc_w 461, 3) := by decide +kernel
theorem dX12_queryOf_147 : decode cX12_queryOf 147 = .ok (.invokevirtual 326, 3) := by decide +kernel
theorem dX12_queryOf_150 : decode cX12_queryOf 150 = .ok (.ifCond .eq 7, 3) := by decide +kernel
theorem dX12_queryOf_153 : decode cX12_queryOf 153 = .ok (.iconst 1, 1) := by decide +kernel
theorem dX12_queryOf_154 : decode cX12_queryOf 154 = .ok (.goto 4, 3) := by decide +kernel
theorem dX12_queryOf_157 : decode cX12_queryOf 157 = .ok (.iconst 2, 1) := by decide +kernel
theorem dX12_queryOf_158 : decode cX12_queryOf 158 = .ok (.istore_n 3, 1) := by decide +kernel
theorem dX12_queryOf_159 : decode cX12_queryOf 159 = .ok (.goto 35, 3) := by decide +kernel
theorem dX12_queryOf_162 : decode cX12_queryOf 162 = .ok (.aload_n 0, 1) := by decide +kernel
theorem dX12_queryOf_163 : decode cX12_queryOf 163 = .ok (.ldc_w 463, 3) := by decide +kernel
theorem dX12_queryOf_166 : decode cX12_queryOf 166 = .ok (.invokevirtual 326, 3) := by decide +kernel
theorem dX12_queryOf_169 : decode cX12_queryOf 169 = .ok (.ifCond .eq 8, 3) := by decide +kernel
theorem dX12_queryOf_172 : decode cX12_queryOf 172 = .ok (.iconst 3, 1) := by decide +kernel
theorem dX12_queryOf_173 : decode cX12_queryOf 173 = .ok (.istore_n 3, 1) := by decide +kernel
theorem dX12_queryOf_174 : decode cX12_queryOf 174 = .ok (.goto 20, 3) := by decide +kernel
theorem dX12_queryOf_177 : decode cX12_queryOf 177 = .ok (.aload_n 0, 1) := by decide +kernel
theorem dX12_queryOf_178 : decode cX12_queryOf 178 = .ok (.ldc_w 465, 3) := by decide +kernel
theorem dX12_queryOf_181 : decode cX12_queryOf 181 = .ok (.invokevirtual 326, 3) := by decide +kernel
theorem dX12_queryOf_184 : decode cX12_queryOf 184 = .ok (.ifCond .eq 8, 3) := by decide +kernel
theorem dX12_queryOf_187 : decode cX12_queryOf 187 = .ok (.iconst 4, 1) := by decide +kernel
theorem dX12_queryOf_188 : decode cX12_queryOf 188 = .ok (.istore_n 3, 1) := by decide +kernel
theorem dX12_queryOf_189 : decode cX12_queryOf 189 = .ok (.goto 5, 3) := by decide +kernel
theorem dX12_queryOf_192 : decode cX12_queryOf 192 = .ok (.iconst 0, 1) := by decide +kernel
theorem dX12_queryOf_193 : decode cX12_queryOf 193 = .ok (.istore_n 2, 1) := by decide +kernel
theorem dX12_queryOf_194 : decode cX12_queryOf 194 = .ok (.goto (-144), 3) := by decide +kernel
theorem dX12_queryOf_197 : decode cX12_queryOf 197 = .ok (.aload_n 0, 1) := by decide +kernel
theorem dX12_queryOf_198 : decode cX12_queryOf 198 = .ok (.ldc_w 467, 3) := by decide +kernel
theorem dX12_queryOf_201 : decode cX12_queryOf 201 = .ok (.invokevirtual 322, 3) := by decide +kernel
theorem dX12_queryOf_204 : decode cX12_queryOf 204 = .ok (.ifCond .eq 252, 3) := by decide +kernel
theorem dX12_queryOf_207 : decode cX12_queryOf 207 = .ok (.aload_n 0, 1) := by decide +kernel
theorem dX12_queryOf_208 : decode cX12_queryOf 208 = .ok (.getfield 172, 3) := by decide +kernel
theorem dX12_queryOf_211 : decode cX12_queryOf 211 = .ok (.iload_n 1, 1) := by decide +kernel
theorem dX12_queryOf_212 : decode cX12_queryOf 212 = .ok (.aload_n 0, 1) := by decide +kernel
theorem dX12_queryOf_213 : decode cX12_queryOf 213 = .ok (.getfield 43, 3) := by decide +kernel
theorem dX12_queryOf_216 : decode cX12_queryOf 216 = .ok (.aload_n 0, 1) := by decide +kernel
theorem dX12_queryOf_217 : decode cX12_queryOf 217 = .ok (.getfield 302, 3) := by decide +kernel
theorem dX12_queryOf_220 : decode cX12_queryOf 220 = .ok (.iaload, 1) := by decide +kernel
theorem dX12_queryOf_221 : decode cX12_queryOf 221 = .ok (.iastore, 1) := by decide +kernel
theorem dX12_queryOf_222 : decode cX12_queryOf 222 = .ok (.aload_n 0, 1) := by decide +kernel
theorem dX12_queryOf_223 : decode cX12_queryOf 223 = .ok (.dup, 1) := by decide +kernel
theorem dX12_queryOf_224 : decode cX12_queryOf 224 = .ok (.getfield 302, 3) := by decide +kernel
theorem dX12_queryOf_227 : decode cX12_queryOf 227 = .ok (.iconst 1, 1) := by decide +kernel
theorem dX12_queryOf_228 : decode cX12_queryOf 228 = .ok (.iadd, 1) := by decide +kernel
theorem dX12_queryOf_229 : decode cX12_queryOf 229 = .ok (.putfield 302, 3) := by decide +kernel
theorem dX12_queryOf_232 : decode cX12_queryOf 232 = .ok (.aload_n 0, 1) := by decide +kernel
theorem dX12_queryOf_233 : decode cX12_queryOf 233 = .ok (.ldc_w 468, 3) := by decide +kernel
theorem dX12_queryOf_236 : decode cX12_queryOf 236 = .ok (.invokevirtual 408, 3) := by decide +kernel
theorem dX12_queryOf_239 : decode cX12_queryOf 239 = .ok (.aload_n 0, 1) := by decide +kernel
theorem dX12_queryOf_240 : decode cX12_queryOf 240 = .ok (.iconst 0, 1) := by decide +kernel
theorem dX12_queryOf_241 : decode cX12_queryOf 241 = .ok (.putfield 358, 3) := by decide +kernel
theorem dX12_queryOf_244 : decode cX12_queryOf 244 = .ok (.iconst 1, 1) := by decide +kernel
theorem dX12_queryOf_245 : decode cX12_queryOf 245 = .ok (.istore_n 2, 1) := by decide +kernel
theorem dX12_queryOf_246 : decode cX12_queryOf 246 = .ok (.iload_n 2, 1) := by decide +kernel
theorem dX12_queryOf_247 : decode cX12_queryOf 247 = .ok (.ifCond .eq 129, 3) := by decide +kernel
theorem dX12_queryOf_250 : decode cX12_queryOf 250 = .ok (.aload_n 0, 1) := by decide +kernel
theorem dX12_queryOf_251 : decode cX12_queryOf 251 = .ok (.getfield 292, 3) := by decide +kernel
theorem dX12_queryOf_254 : decode cX12_queryOf 254 = .ok (.ifCond .eq 122, 3) := by decide +kernel
theorem dX12_queryOf_257 : decode cX12_queryOf 257 = .ok (.aload_n 0, 1) := by decide +kernel
theorem dX12_queryOf_258 : decode cX12_queryOf 258 = .ok (.getfield 169, 3) := by decide +kernel
theorem dX12_queryOf_261 : decode cX12_queryOf 261 = .ok (.iload_n 1, 1) := by decide +kernel
theorem dX12_queryOf_262 : decode cX12_queryOf 262 = .ok (.iaload, 1) := by decide +kernel
theorem dX12_queryOf_263 : decode cX12_queryOf 263 = .ok (.istore 5, 2) := by decide +kernel
theorem dX12_queryOf_265 : decode cX12_queryOf 265 = .ok (.iload 5, 2) := by decide +kernel
theorem dX12_queryOf_267 : decode cX12_queryOf 267 = .ok (.bipush 8, 2) := by decide +kernel
theorem dX12_queryOf_269 : decode cX12_queryOf 269 = .ok (.if_icmp .ne 26, 3) := by decide +kernel
theorem dX12_queryOf_272 : decode cX12_queryOf 272 = .ok (.aload_n 0, 1) := by decide +kernel
theorem dX12_queryOf_273 : decode cX12_queryOf 273 = .ok (.iconst 0, 1) := by decide +kernel
theorem dX12_queryOf_274 : decode cX12_queryOf 274 = .ok (.invokevirtual 417, 3) := by decide +kernel
theorem dX12_queryOf_277 : decode cX12_queryOf 277 = .ok (.ifCond .eq 18, 3) := by decide +kernel
theorem dX12_queryOf_280 : decode cX12_queryOf 280 = .ok (.aload_n 0, 1) := by decide +kernel
theorem dX12_queryOf_281 : decode cX12_queryOf 281 = .ok (.bipush 7, 2) := by decide +kernel
theorem dX12_queryOf_283 : decode cX12_queryOf 283 = .ok (.aload_n 0, 1) := by decide +kernel
theorem dX12_queryOf_284 : decode cX12_queryOf 284 = .ok (.getfield 43, 3) := by decide +kernel
theorem dX12_queryOf_287 : decode cX12_queryOf 287 = .ok (.aload_n 0, 1) := by decide +kernel
theorem dX12_queryOf_288 : decode cX12_queryOf 288 = .ok (.getfield 302, 3) := by decide +kernel
theorem dX12_queryOf_291 : decode cX12_queryOf 291 = .ok (.iaload, 1) := by decide +kernel
theorem dX12_queryOf_292 : decode cX12_queryOf 292 = .ok (.invokevirtual 305, 3) := by decide +kernel
theorem dX12_queryOf_295 : decode cX12_queryOf 295 = .ok (.aload_n 0, 1) := by decide +kernel
theorem dX12_queryOf_296 : decode cX12_queryOf 296 = .ok (.getfield 292, 3) := by decide +kernel
theorem dX12_queryOf_299 : decode cX12_queryOf 299 = .ok (.ifCond .eq 10, 3) := by decide +kernel
theorem dX12_queryOf_302 : decode cX12_queryOf 302 = .ok (.aload_n 0, 1) := by decide +kernel
theorem dX12_queryOf_303 : decode cX12_queryOf 303 = .ok (.invokevirtual 429, 3) := by decide +kernel
theorem dX12_queryOf_306 : decode cX12_queryOf 306 = .ok (.goto 4, 3) := by decide +kernel
theorem dX12_queryOf_309 : decode cX12_queryOf 309 = .ok (.iconst 0, 1) := by decide +kernel
theorem dX12_queryOf_310 : decode cX12_queryOf 310 = .ok (.istore 6, 2) := by decide +kernel
theorem dX12_queryOf_312 : decode cX12_queryOf 312 = .ok (.aload_n 0, 1) := by decide +kernel
theorem dX12_queryOf_313 : decode cX12_queryOf 313 = .ok (.ldc_w 470, 3) := by decide +kernel
theorem dX12_queryOf_316 : decode cX12_queryOf 316 = .ok (.invokevirtual 326, 3) := by decide +kernel
theorem dX12_queryOf_319 : decode cX12_queryOf 319 = .ok (.istore 7, 2) := by decide +kernel
theorem dX12_queryOf_321 : decode cX12_queryOf 321 = .ok (.aload_n 0, 1) := by decide +kernel
theorem dX12_queryOf_322 : decode cX12_queryOf 322 = .ok (.getfield 292, 3) := by decide +kernel
theorem dX12_queryOf_325 : decode cX12_queryOf 325 = .ok (.ifCond .eq 41, 3) := by decide +kernel
theorem dX12_queryOf_328 : decode cX12_queryOf 328 = .ok (.aload_n 0, 1) := by decide +kernel
theorem dX12_queryOf_329 : decode cX12_queryOf 329 = .ok (.getfield 175, 3) := by decide +kernel
theorem dX12_queryOf_332 : decode cX12_queryOf 332 = .ok (.bipush 8, 2) := by decide +kernel
theorem dX12_queryOf_334 : decode cX12_queryOf 334 = .ok (.iload_n 1, 1) := by decide +kernel
theorem dX12_queryOf_335 : decode cX12_queryOf 335 = .ok (.imul, 1) := by decide +kernel
theorem dX12_queryOf_336 : decode cX12_queryOf 336 = .ok (.iload 5, 2) := by decide +kernel
theorem dX12_queryOf_338 : decode cX12_queryOf 338 = .ok (.iadd, 1) := by decide +kernel
theorem dX12_queryOf_339 : decode cX12_queryOf 339 = .ok (.iload 6, 2) := by decide +kernel
theorem dX12_queryOf_341 : decode cX12_queryOf 341 = .ok (.iastore, 1) := by decide +kernel
theorem dX12_queryOf_342 : decode cX12_queryOf 342 = .ok (.aload_n 0, 1) := by decide +kernel
theorem dX12_queryOf_343 : decode cX12_queryOf 343 = .ok (.getfield 178, 3) := by decide +kernel
theorem dX12_queryOf_346 : decode cX12_queryOf 346 = .ok (.bipush 8, 2) := by decide +kernel
theorem dX12_queryOf_348 : decode cX12_queryOf 348 = .ok (.iload_n 1, 1) := by decide +kernel
theorem dX12_queryOf_349 : decode cX12_queryOf 349 = .ok (.imul, 1) := by decide +kernel
theorem dX12_queryOf_350 : decode cX12_queryOf 350 = .ok (.iload 5, 2) := by decide +kernel
theorem dX12_queryOf_352 : decode cX12_queryOf 352 = .ok (.iadd, 1) := by decide +kernel
theorem dX12_queryOf_353 : decode cX12_queryOf 353 = .ok (.iload 7, 2) := by decide +kernel
theorem dX12_queryOf_355 : decode cX12_queryOf 355 = .ok (.bastore, 1) := by decide +kernel
theorem dX12_queryOf_356 : decode cX12_queryOf 356 = .ok (.aload_n 0, 1) := by decide +kernel
theorem dX12_queryOf_357 : decode cX12_queryOf 357 = .ok (.getfield 169, 3) := by decide +kernel
theorem dX12_queryOf_360 : decode cX12_queryOf 360 = .ok (.iload_n 1, 1) := by decide +kernel
theorem dX12_queryOf_361 : decode cX12_queryOf 361 = .ok (.dup2, 1) := by decide +kernel
theorem dX12_queryOf_362 : decode cX12_queryOf 362 = .ok (.iaload, 1) := by decide +kernel
theorem dX12_queryOf_363 : decode cX12_queryOf 363 = .ok (.iconst 1, 1) := by decide +kernel
theorem dX12_queryOf_364 : decode cX12_queryOf 364 = .ok (.iadd, 1) := by decide +kernel
theorem dX12_queryOf_365 : decode cX12_queryOf 365 = .ok (.iastore, 1) := by decide +kernel
theorem dX12_queryOf_366 : decode cX12_queryOf 366 = .ok (.aload_n 0, 1) := by decide +kernel
theorem dX12_queryOf_367 : decode cX12_queryOf 367 = .ok (.bipush 44, 2) := by decide +kernel
theorem dX12_queryOf_369 : decode cX12_queryOf 369 = .ok (.invokevirtual 335, 3) := by decide +kernel
theorem dX12_queryOf_372 : decode cX12_queryOf 372 = .ok (.istore_n 2, 1) := by decide +kernel
theorem dX12_queryOf_373 : decode cX12_queryOf 373 = .ok (.goto (-127), 3) := by decide +kernel
theorem dX12_queryOf_376 : decode cX12_queryOf 376 = .ok (.aload_n 0, 1) := by decide +kernel
theorem dX12_queryOf_377 : decode cX12_queryOf 377 = .ok (.ldc_w 472, 3) := by decide +kernel
theorem dX12_queryOf_380 : decode cX12_queryOf 380 = .ok (.invokevirtual 408, 3) := by decide +kernel
theorem dX12_queryOf_383 : decode cX12_queryOf 383 = .ok (.aload_n 0, 1) := by decide +kernel
theorem dX12_queryOf_384 : decode cX12_queryOf 384 = .ok (.getfield 292, 3) := by decide +kernel
theorem dX12_queryOf_387 : decode cX12_queryOf 387 = .ok (.ifCond .eq 36, 3) := by decide +kernel
theorem dX12_queryOf_390 : decode cX12_queryOf 390 = .ok (.aload_n 0, 1) := by decide +kernel
theorem dX12_queryOf_391 : decode cX12_queryOf 391 = .ok (.getfield 40, 3) := by decide +kernel
theorem dX12_queryOf_394 : decode cX12_queryOf 394 = .ok (.aload_n 0, 1) := by decide +kernel
theorem dX12_queryOf_395 : decode cX12_queryOf 395 = .ok (.getfield 302, 3) := by decide +kernel
theorem dX12_queryOf_398 : decode cX12_queryOf 398 = .ok (.iaload, 1) := by decide +kernel
theorem dX12_queryOf_399 : decode cX12_queryOf 399 = .ok (.iconst 2, 1) := by decide +kernel
theorem dX12_queryOf_400 : decode cX12_queryOf 400 = .ok (.if_icmp .ne 19, 3) := by decide +kernel
theorem dX12_queryOf_403 : decode cX12_queryOf 403 = .ok (.aload_n 0, 1) := by decide +kernel
theorem dX12_queryOf_404 : decode cX12_queryOf 404 = .ok (.getfield 49, 3) := by decide +kernel
theorem dX12_queryOf_407 : decode cX12_queryOf 407 = .ok (.aload_n 0, 1) := by decide +kernel
theorem dX12_queryOf_408 : decode cX12_queryOf 408 = .ok (.getfield 302, 3) := by decide +kernel
theorem dX12_queryOf_411 : decode cX12_queryOf 411 = .ok (.laload, 1) := by decide +kernel
theorem dX12_queryOf_412 : decode cX12_queryOf 412 = .ok (.ldc2_w 474, 3) := by decide +kernel
theorem dX12_queryOf_415 : decode cX12_queryOf 415 = .ok (.lcmp, 1) := by decide +kernel
theorem dX12_queryOf_416 : decode cX12_queryOf 416 = .ok (.ifCond .le 7, 3) := by decide +kernel
theorem dX12_queryOf_419 : decode cX12_queryOf 419 = .ok (.aload_n 0, 1) := by decide +kernel
theorem dX12_queryOf_420 : decode cX12_queryOf 420 = .ok (.invokevirtual 329, 3) := by decide +kernel
theorem dX12_queryOf_423 : decode cX12_queryOf 423 = .ok (.aload_n 0, 1) := by decide +kernel
theorem dX12_queryOf_424 : decode cX12_queryOf 424 = .ok (.getfield 292, 3) := by decide +kernel
theorem dX12_queryOf_427 : decode cX12_queryOf 427 = .ok (.ifCond .eq 29, 3) := by decide +kernel
theorem dX12_queryOf_430 : decode cX12_queryOf 430 = .ok (.aload_n 0, 1) := by decide +kernel
theorem dX12_queryOf_431 : decode cX12_queryOf 431 = .ok (.getfield 181, 3) := by decide +kernel
theorem dX12_queryOf_434 : decode cX12_queryOf 434 = .ok (.iload_n 1, 1) := by decide +kernel
theorem dX12_queryOf_435 : decode cX12_queryOf 435 = .ok (.aload_n 0, 1) := by decide +kernel
theorem dX12_queryOf_436 : decode cX12_queryOf 436 = .ok (.getfield 49, 3) := by decide +kernel
theorem dX12_queryOf_439 : decode cX12_queryOf 439 = .ok (.aload_n 0, 1) := by decide +kernel
theorem dX12_queryOf_440 : decode cX12_queryOf 440 = .ok (.getfield 302, 3) := by decide +kernel
theorem dX12_queryOf_443 : decode cX12_queryOf 443 = .ok (.laload, 1) := by decide +kernel
theorem dX12_queryOf_444 : decode cX12_queryOf 444 = .ok (.l2i, 1) := by decide +kernel
theorem dX12_queryOf_445 : decode cX12_queryOf 445 = .ok (.iastore, 1) := by decide +kernel
theorem dX12_queryOf_446 : decode cX12_queryOf 446 = .ok (.aload_n 0, 1) := by decide +kernel
theorem dX12_queryOf_447 : decode cX12_queryOf 447 = .ok (.dup, 1) := by decide +kernel
theorem dX12_queryOf_448 : decode cX12_queryOf 448 = .ok (.getfield 302, 3) := by decide +kernel
theorem dX12_queryOf_451 : decode cX12_queryOf 451 = .ok (.iconst 1, 1) := by decide +kernel
theorem dX12_queryOf_452 : decode cX12_queryOf 452 = .ok (.iadd, 1) := by decide +kernel
theorem dX12_queryOf_453 : decode cX12_queryOf 453 = .ok (.putfield 302, 3) := by decide +kernel
theorem dX12_queryOf_456 : decode cX12_queryOf 456 = .ok (.iload_n 1, 1) := by decide +kernel
theorem dX12_queryOf_457 : decode cX12_queryOf 457 = .ok (.ireturn, 1) := by decide +kernel
def m_queryOf_b456 (F : Nat) (T : TG_queryOf) (cs1 : RS) (u1 : Int32) : Option (RS × Int32) := some (cs1, u1)
def m_queryOf_b423 (F : Nat) (T : TG_queryOf) (cs1 : RS) (u1 : Int32) : Option (RS × Int32) := if (cs1.1 21) = 0 then (m_queryOf_b456 F T cs1 u1) else (Option.bind (rdL (cs1.2.2.2 17) 2001 (cs1.1 18)) fun v_2 => Option.bind (wrI cs1 68 60 u1 v_2.toInt32) fun cs_3 => m_queryOf_b456 F T (setF cs_3 18 ((cs_3.1 18) + 1)) u1)
def m_queryOf_b419 (F : Nat) (T : TG_queryOf) (cs1 : RS) (u1 : Int32) : Option (RS × Int32) := Option.bind (m_wrong F cs1 ) fun cs_4 => m_queryOf_b423 F T cs_4 u1
def m_queryOf_b376 (F : Nat) (T : TG_queryOf) (cs1 : RS) (u1 : Int32) : Option (RS × Int32) := Option.bind (m_needWord F cs1 41) fun cs_5 => if (cs_5.1 21) = 0 then (m_queryOf_b423 F T cs_5 u1) else (Option.bind (rdI (cs_5.2.2.1 14) 2001 (cs_5.1 18)) fun v_7 => if v_7 = 2 then (Option.bind (rdL (cs_5.2.2.2 17) 2001 (cs_5.1 18)) fun v_9 => if v_9 ≤ (100) then (m_queryOf_b423 F T cs_5 u1) else (m_queryOf_b419 F T cs_5 u1)) else (m_queryOf_b419 F T cs_5 u1))
def m_queryOf_b366 (F : Nat) (T : TG_queryOf) (rc246 : RS → Int32 → Int32 → Option (RS × Int32)) (cs1 : RS) (u1 : Int32) : Option (RS × Int32) := Option.bind (m_takeSign F cs1 44) fun z_11 => rc246 z_11.1 u1 z_11.2
def m_queryOf_b310 (F : Nat) (T : TG_queryOf) (rc246 : RS → Int32 → Int32 → Option (RS × Int32)) (cs1 : RS) (u1 : Int32) (u5 : Int32) (y0 : Int32) : Option (RS × Int32) := Option.bind (m_takeWord F cs1 40) fun z_12 => if (z_12.1.1 21) = 0 then (m_queryOf_b366 F T rc246 z_12.1 u1) else (Option.bind (wrI z_12.1 66 480 ((8 * u1) + u5) y0) fun cs_14 => Option.bind (wrI cs_14 67 480 ((8 * u1) + u5) (vp_nar .boolean z_12.2)) fun cs_15 => Option.bind (rdI (cs_15.2.2.1 64) 60 u1) fun v_16 => Option.bind (wrI cs_15 64 60 u1 (v_16 + 1)) fun cs_17 => m_queryOf_b366 F T rc246 cs_17 u1)
def m_queryOf_b295 (F : Nat) (T : TG_queryOf) (rc246 : RS → Int32 → Int32 → Option (RS × Int32)) (cs1 : RS) (u1 : Int32) (u5 : Int32) : Option (RS × Int32) := if (cs1.1 21) = 0 then (m_queryOf_b310 F T rc246 cs1 u1 u5 0) else (Option.bind (m_expr F 300 cs1 ) fun z_19 => m_queryOf_b310 F T rc246 z_19.1 u1 u5 z_19.2)
def m_queryOf_L246 (F : Nat) (T : TG_queryOf) : Nat → RS → Int32 → Int32 → Option (RS × Int32)
  | 0, _, _, _ => none
  | lf_246 + 1, cs1, u1, u2 => if u2 = 0 then (m_queryOf_b376 F T cs1 u1) else (if (cs1.1 21) = 0 then (m_queryOf_b376 F T cs1 u1) else (Option.bind (rdI (cs1.2.2.1 64) 60 u1) fun v_22 => if v_22 = 8 then (Option.bind (m_begins F cs1 0) fun v_24 => if v_24 = 0 then (m_queryOf_b295 F T (m_queryOf_L246 F T lf_246) cs1 u1 v_22) else (Option.bind (rdI (cs1.2.2.1 15) 2001 (cs1.1 18)) fun v_26 => Option.bind (m_tell F cs1 7 v_26) fun cs_27 => m_queryOf_b295 F T (m_queryOf_L246 F T lf_246) cs_27 u1 v_22)) else (m_queryOf_b295 F T (m_queryOf_L246 F T lf_246) cs1 u1 v_22)))
def m_queryOf_b197 (F : Nat) (T : TG_queryOf) (cs1 : RS) (u1 : Int32) : Option (RS × Int32) := Option.bind (m_isWord F cs1 39) fun v_28 => if v_28 = 0 then (m_queryOf_b456 F T cs1 u1) else (Option.bind (rdI (cs1.2.2.1 15) 2001 (cs1.1 18)) fun v_30 => Option.bind (wrI cs1 65 60 u1 v_30) fun cs_31 => Option.bind (m_needWord F (setF cs_31 18 ((cs_31.1 18) + 1)) 33) fun cs_32 => m_queryOf_L246 F T F (setF cs_32 72 0) u1 1)
def m_queryOf_b194 (F : Nat) (T : TG_queryOf) (rc50 : RS → Int32 → Int32 → Int32 → Int32 → Option (RS × Int32)) (cs1 : RS) (u1 : Int32) (u2 : Int32) (u3 : Int32) (u4 : Int32) : Option (RS × Int32) := rc50 cs1 u1 u2 u3 u4
def m_queryOf_b158 (F : Nat) (T : TG_queryOf) (rc50 : RS → Int32 → Int32 → Int32 → Int32 → Option (RS × Int32)) (cs1 : RS) (u1 : Int32) (u2 : Int32) (u4 : Int32) (y0 : Int32) : Option (RS × Int32) := m_queryOf_b194 F T rc50 cs1 u1 u2 y0 u4
def m_queryOf_b122 (F : Nat) (T : TG_queryOf) (rc50 : RS → Int32 → Int32 → Int32 → Int32 → Option (RS × Int32)) (cs1 : RS) (u1 : Int32) (u2 : Int32) (u3 : Int32) : Option (RS × Int32) := Option.bind (rdI (cs1.2.2.1 15) 2001 (cs1.1 18)) fun v_33 => Option.bind (m_takeWord F cs1 35) fun z_34 => if z_34.2 = 0 then (Option.bind (m_takeWord F z_34.1 37) fun z_36 => if z_36.2 = 0 then (Option.bind (m_takeWord F z_36.1 38) fun z_38 => if z_38.2 = 0 then (m_queryOf_b194 F T rc50 z_38.1 u1 0 u3 v_33) else (m_queryOf_b194 F T rc50 z_38.1 u1 u2 4 v_33)) else (m_queryOf_b194 F T rc50 z_36.1 u1 u2 3 v_33)) else (Option.bind (m_takeWord F z_34.1 36) fun z_40 => if z_40.2 = 0 then (m_queryOf_b158 F T rc50 z_40.1 u1 u2 v_33 2) else (m_queryOf_b158 F T rc50 z_40.1 u1 u2 v_33 1))
def m_queryOf_L50 (F : Nat) (T : TG_queryOf) : Nat → RS → Int32 → Int32 → Int32 → Int32 → Option (RS × Int32)
  | 0, _, _, _, _, _ => none
  | lf_50 + 1, cs1, u1, u2, u3, u4 => if u2 = 0 then (m_queryOf_b197 F T cs1 u1) else (if (cs1.1 21) = 0 then (m_queryOf_b197 F T cs1 u1) else (Option.bind (T.2.1 cs1 ) fun z_44 => Option.bind (rdI (z_44.1.2.2.1 60) 60 u1) fun v_45 => if (z_44.1.1 21) = 0 then (m_queryOf_b122 F T (m_queryOf_L50 F T lf_50) z_44.1 u1 u2 u3) else (Option.bind (wrI z_44.1 61 300 ((5 * u1) + v_45) z_44.2) fun cs_47 => Option.bind (wrI cs_47 62 300 ((5 * u1) + v_45) u3) fun cs_48 => Option.bind (wrI cs_48 63 300 ((5 * u1) + v_45) u4) fun cs_49 => Option.bind (rdI (cs_49.2.2.1 60) 60 u1) fun v_50 => Option.bind (wrI cs_49 60 60 u1 (v_50 + 1)) fun cs_51 => m_queryOf_b122 F T (m_queryOf_L50 F T lf_50) cs_51 u1 u2 u3)))
def b_queryOf (F : Nat) (T : TG_queryOf) (cs : RS) : Option (RS × Int32) := Option.bind (wrI (setF cs 59 ((cs.1 59) + 1)) 60 60 (cs.1 59) 0) fun cs_52 => Option.bind (wrI cs_52 64 60 (cs.1 59) 0) fun cs_53 => Option.bind (wrI cs_53 68 60 (cs.1 59) (-1)) fun cs_54 => Option.bind (wrI cs_54 65 60 (cs.1 59) (-1)) fun cs_55 => m_queryOf_L50 F T F cs_55 (cs.1 59) 1 0 0
theorem dX12_selectOf_0 : decode cX12_selectOf 0 = .ok (.aload_n 0, 1) := by decide +kernel
theorem dX12_selectOf_1 : decode cX12_selectOf 1 = .ok (.ldc_w 476, 3) := by decide +kernel
theorem dX12_selectOf_4 : decode cX12_selectOf 4 = .ok (.invokevirtual 408, 3) := by decide +kernel
theorem dX12_selectOf_7 : decode cX12_selectOf 7 = .ok (.aload_n 0, 1) := by decide +kernel
theorem dX12_selectOf_8 : decode cX12_selectOf 8 = .ok (.getfield 477, 3) := by decide +kernel
theorem dX12_selectOf_11 : decode cX12_selectOf 11 = .ok (.istore_n 1, 1) := by decide +kernel
theorem dX12_selectOf_12 : decode cX12_selectOf 12 = .ok (.aload_n 0, 1) := by decide +kernel
theorem dX12_selectOf_13 : decode cX12_selectOf 13 = .ok (.dup, 1) := by decide +kernel
theorem dX12_selectOf_14 : decode cX12_selectOf 14 = .ok (.getfield 477, 3) := by decide +kernel
theorem dX12_selectOf_17 : decode cX12_selectOf 17 = .ok (.iconst 1, 1) := by decide +kernel
theorem dX12_selectOf_18 : decode cX12_selectOf 18 = .ok (.iadd, 1) := by decide +kernel
theorem dX12_selectOf_19 : decode cX12_selectOf 19 = .ok (.putfield 477, 3) := by decide +kernel
theorem dX12_selectOf_22 : decode cX12_selectOf 22 = .ok (.aload_n 0, 1) := by decide +kernel
theorem dX12_selectOf_23 : decode cX12_selectOf 23 = .ok (.getfield 447, 3) := by decide +kernel
theorem dX12_selectOf_26 : decode cX12_selectOf 26 = .ok (.istore_n 2, 1) := by decide +kernel
theorem dX12_selectOf_27 : decode cX12_selectOf 27 = .ok (.aload_n 0, 1) := by decide +kernel
theorem dX12_selectOf_28 : decode cX12_selectOf 28 = .ok (.iload_n 1, 1) := by decide +kernel
theorem dX12_selectOf_29 : decode cX12_selectOf 29 = .ok (.putfield 447, 3) := by decide +kernel
theorem dX12_selectOf_32 : decode cX12_selectOf 32 = .ok (.aload_n 0, 1) := by decide +kernel
theorem dX12_selectOf_33 : decode cX12_selectOf 33 = .ok (.getfield 88, 3) := by decide +kernel
theorem dX12_selectOf_36 : decode cX12_selectOf 36 = .ok (.iload_n 1, 1) := by decide +kernel
theorem dX12_selectOf_37 : decode cX12_selectOf 37 = .ok (.iconst 0, 1) := by decide +kernel
theorem dX12_selectOf_38 : decode cX12_selectOf 38 = .ok (.iastore, 1) := by decide +kernel
theorem dX12_selectOf_39 : decode cX12_selectOf 39 = .ok (.aload_n 0, 1) := by decide +kernel
theorem dX12_selectOf_40 : decode cX12_selectOf 40 = .ok (.getfield 91, 3) := by decide +kernel
theorem dX12_selectOf_43 : decode cX12_selectOf 43 = .ok (.iload_n 1, 1) := by decide +kernel
theorem dX12_selectOf_44 : decode cX12_selectOf 44 = .ok (.iconst 0, 1) := by decide +kernel
theorem dX12_selectOf_45 : decode cX12_selectOf 45 = .ok (.iastore, 1) := by decide +kernel
theorem dX12_selectOf_46 : decode cX12_selectOf 46 = .ok (.aload_n 0, 1) := by decide +kernel
theorem dX12_selectOf_47 : decode cX12_selectOf 47 = .ok (.getfield 94, 3) := by decide +kernel
theorem dX12_selectOf_50 : decode cX12_selectOf 50 = .ok (.iload_n 1, 1) := by decide +kernel
theorem dX12_selectOf_51 : decode cX12_selectOf 51 = .ok (.iconst (-1), 1) := by decide +kernel
theorem dX12_selectOf_52 : decode cX12_selectOf 52 = .ok (.iastore, 1) := by decide +kernel
theorem dX12_selectOf_53 : decode cX12_selectOf 53 = .ok (.aload_n 0, 1) := by decide +kernel
theorem dX12_selectOf_54 : decode cX12_selectOf 54 = .ok (.getfield 97, 3) := by decide +kernel
theorem dX12_selectOf_57 : decode cX12_selectOf 57 = .ok (.iload_n 1, 1) := by decide +kernel
theorem dX12_selectOf_58 : decode cX12_selectOf 58 = .ok (.iconst 0, 1) := by decide +kernel
theorem dX12_selectOf_59 : decode cX12_selectOf 59 = .ok (.iastore, 1) := by decide +kernel
theorem dX12_selectOf_60 : decode cX12_selectOf 60 = .ok (.aload_n 0, 1) := by decide +kernel
theorem dX12_selectOf_61 : decode cX12_selectOf 61 = .ok (.getfield 100, 3) := by decide +kernel
theorem dX12_selectOf_64 : decode cX12_selectOf 64 = .ok (.iload_n 1, 1) := by decide +kernel
theorem dX12_selectOf_65 : decode cX12_selectOf 65 = .ok (.iconst (-1), 1) := by decide +kernel
theorem dX12_selectOf_66 : decode cX12_selectOf 66 = .ok (.iastore, 1) := by decide +kernel
theorem dX12_selectOf_67 : decode cX12_selectOf 67 = .ok (.aload_n 0, 1) := by decide +kernel
theorem dX12_selectOf_68 : decode cX12_selectOf 68 = .ok (.getfield 103, 3) := by decide +kernel
theorem dX12_selectOf_71 : decode cX12_selectOf 71 = .ok (.iload_n 1, 1) := by decide +kernel
theorem dX12_selectOf_72 : decode cX12_selectOf 72 = .ok (.iconst (-1), 1) := by decide +kernel
theorem dX12_selectOf_73 : decode cX12_selectOf 73 = .ok (.iastore, 1) := by decide +kernel
theorem dX12_selectOf_74 : decode cX12_selectOf 74 = .ok (.aload_n 0, 1) := by decide +kernel
theorem dX12_selectOf_75 : decode cX12_selectOf 75 = .ok (.getfield 106, 3) := by decide +kernel
theorem dX12_selectOf_78 : decode cX12_selectOf 78 = .ok (.iload_n 1, 1) := by decide +kernel
theorem dX12_selectOf_79 : decode cX12_selectOf 79 = .ok (.iconst 0, 1) := by decide +kernel
theorem dX12_selectOf_80 : decode cX12_selectOf 80 = .ok (.iastore, 1) := by decide +kernel
theorem dX12_selectOf_81 : decode cX12_selectOf 81 = .ok (.aload_n 0, 1) := by decide +kernel
theorem dX12_selectOf_82 : decode cX12_selectOf 82 = .ok (.getfield 109, 3) := by decide +kernel
theorem dX12_selectOf_85 : decode cX12_selectOf 85 = .ok (.iload_n 1, 1) := by decide +kernel
theorem dX12_selectOf_86 : decode cX12_selectOf 86 = .ok (.iconst (-1), 1) := by decide +kernel
theorem dX12_selectOf_87 : decode cX12_selectOf 87 = .ok (.iastore, 1) := by decide +kernel
theorem dX12_selectOf_88 : decode cX12_selectOf 88 = .ok (.aload_n 0, 1) := by decide +kernel
theorem dX12_selectOf_89 : decode cX12_selectOf 89 = .ok (.getfield 85, 3) := by decide +kernel
theorem dX12_selectOf_92 : decode cX12_selectOf 92 = .ok (.iload_n 1, 1) := by decide +kernel
theorem dX12_selectOf_93 : decode cX12_selectOf 93 = .ok (.aload_n 0, 1) := by decide +kernel
theorem dX12_selectOf_94 : decode cX12_selectOf 94 = .ok (.ldc_w 480, 3) := by decide +kernel
theorem dX12_selectOf_97 : decode cX12_selectOf 97 = .ok (.invokevirtual 322, 3) := by decide +kernel
theorem dX12_selectOf_100 : decode cX12_selectOf 100 = .ok (.ifCond .eq 15, 3) := by decide +kernel
theorem dX12_selectOf_103 : decode cX12_selectOf 103 = .ok (.aload_n 0, 1) := by decide +kernel
theorem dX12_selectOf_104 : decode cX12_selectOf 104 = .ok (.getfield 43, 3) := by decide +kernel
theorem dX12_selectOf_107 : decode cX12_selectOf 107 = .ok (.aload_n 0, 1) := by decide +kernel
theorem dX12_selectOf_108 : decode cX12_selectOf 108 = .ok (.getfield 302, 3) := by decide +kernel
theorem dX12_selectOf_111 : decode cX12_selectOf 111 = .ok (.iaload, 1) := by decide +kernel
theorem dX12_selectOf_112 : decode cX12_selectOf 112 = .ok (.goto 4, 3) := by decide +kernel
theorem dX12_selectOf_115 : decode cX12_selectOf 115 = .ok (.iconst (-1), 1) := by decide +kernel
theorem dX12_selectOf_116 : decode cX12_selectOf 116 = .ok (.iastore, 1) := by decide +kernel
theorem dX12_selectOf_117 : decode cX12_selectOf 117 = .ok (.aload_n 0, 1) := by decide +kernel
theorem dX12_selectOf_118 : decode cX12_selectOf 118 = .ok (.ldc_w 480, 3) := by decide +kernel
theorem dX12_selectOf_121 : decode cX12_selectOf 121 = .ok (.invokevirtual 326, 3) := by decide +kernel
theorem dX12_selectOf_124 : decode cX12_selectOf 124 = .ok (.istore_n 3, 1) := by decide +kernel
theorem dX12_selectOf_125 : decode cX12_selectOf 125 = .ok (.iconst 1, 1) := by decide +kernel
theorem dX12_selectOf_126 : decode cX12_selectOf 126 = .ok (.istore 4, 2) := by decide +kernel
theorem dX12_selectOf_128 : decode cX12_selectOf 128 = .ok (.aload_n 0, 1) := by decide +kernel
theorem dX12_selectOf_129 : decode cX12_selectOf 129 = .ok (.iconst 1, 1) := by decide +kernel
theorem dX12_selectOf_130 : decode cX12_selectOf 130 = .ok (.putfield 358, 3) := by decide +kernel
theorem dX12_selectOf_133 : decode cX12_selectOf 133 = .ok (.iload 4, 2) := by decide +kernel
theorem dX12_selectOf_135 : decode cX12_selectOf 135 = .ok (.ifCond .eq 221, 3) := by decide +kernel
theorem dX12_selectOf_138 : decode cX12_selectOf 138 = .ok (.aload_n 0, 1) := by decide +kernel
theorem dX12_selectOf_139 : decode cX12_selectOf 139 = .ok (.getfield 292, 3) := by decide +kernel
theorem dX12_selectOf_142 : decode cX12_selectOf 142 = .ok (.ifCond .eq 214, 3) := by decide +kernel
theorem dX12_selectOf_145 : decode cX12_selectOf 145 = .ok (.aload_n 0, 1) := by decide +kernel
theorem dX12_selectOf_146 : decode cX12_selectOf 146 = .ok (.getfield 88, 3) := by decide +kernel
theorem dX12_selectOf_149 : decode cX12_selectOf 149 = .ok (.iload_n 1, 1) := by decide +kernel
theorem dX12_selectOf_150 : decode cX12_selectOf 150 = .ok (.iaload, 1) := by decide +kernel
theorem dX12_selectOf_151 : decode cX12_selectOf 151 = .ok (.istore 5, 2) := by decide +kernel
theorem dX12_selectOf_153 : decode cX12_selectOf 153 = .ok (.iload 5, 2) := by decide +kernel
theorem dX12_selectOf_155 : decode cX12_selectOf 155 = .ok (.bipush 8, 2) := by decide +kernel
theorem dX12_selectOf_157 : decode cX12_selectOf 157 = .ok (.if_icmp .ne 26, 3) := by decide +kernel
theorem dX12_selectOf_160 : decode cX12_selectOf 160 = .ok (.aload_n 0, 1) := by decide +kernel
theorem dX12_selectOf_161 : decode cX12_selectOf 161 = .ok (.iconst 0, 1) := by decide +kernel
theorem dX12_selectOf_162 : decode cX12_selectOf 162 = .ok (.invokevirtual 417, 3) := by decide +kernel
theorem dX12_selectOf_165 : decode cX12_selectOf 165 = .ok (.ifCond .eq 18, 3) := by decide +kernel
theorem dX12_selectOf_168 : decode cX12_selectOf 168 = .ok (.aload_n 0, 1) := by decide +kernel
theorem dX12_selectOf_169 : decode cX12_selectOf 169 = .ok (.bipush 7, 2) := by decide +kernel
theorem dX12_selectOf_171 : decode cX12_selectOf 171 = .ok (.aload_n 0, 1) := by decide +kernel
theorem dX12_selectOf_172 : decode cX12_selectOf 172 = .ok (.getfield 43, 3) := by decide +kernel
theorem dX12_selectOf_175 : decode cX12_selectOf 175 = .ok (.aload_n 0, 1) := by decide +kernel
theorem dX12_selectOf_176 : decode cX12_selectOf 176 = .ok (.getfield 302, 3) := by decide +kernel
theorem dX12_selectOf_179 : decode cX12_selectOf 179 = .ok (.iaload, 1) := by decide +kernel
theorem dX12_selectOf_180 : decode cX12_selectOf 180 = .ok (.invokevirtual 305, 3) := by decide +kernel
theorem dX12_selectOf_183 : decode cX12_selectOf 183 = .ok (.aload_n 0, 1) := by decide +kernel
theorem dX12_selectOf_184 : decode cX12_selectOf 184 = .ok (.getfield 302, 3) := by decide +kernel
theorem dX12_selectOf_187 : decode cX12_selectOf 187 = .ok (.istore 6, 2) := by decide +kernel
theorem dX12_selectOf_189 : decode cX12_selectOf 189 = .ok (.aload_n 0, 1) := by decide +kernel
theorem dX12_selectOf_190 : decode cX12_selectOf 190 = .ok (.getfield 292, 3) := by decide +kernel
theorem dX12_selectOf_193 : decode cX12_selectOf 193 = .ok (.ifCond .eq 10, 3) := by decide +kernel
theorem dX12_selectOf_196 : decode cX12_selectOf 196 = .ok (.aload_n 0, 1) := by decide +kernel
theorem dX12_selectOf_197 : decode cX12_selectOf 197 = .ok (.invokevirtual 429, 3) := by decide +kernel
theorem dX12_selectOf_200 : decode cX12_selectOf 200 = .ok (.goto 4, 3) := by decide +kernel
theorem dX12_selectOf_203 : decode cX12_selectOf 203 = .ok (.iconst 0, 1) := by decide +kernel
theorem dX12_selectOf_204 : decode cX12_selectOf 204 = .ok (.istore 7, 2) := by decide +kernel
theorem dX12_selectOf_206 : decode cX12_selectOf 206 = .ok (.aload_n 0, 1) := by decide +kernel
theorem dX12_selectOf_207 : decode cX12_selectOf 207 = .ok (.getfield 292, 3) := by decide +kernel
theorem dX12_selectOf_210 : decode cX12_selectOf 210 = .ok (.ifCond .eq 71, 3) := by decide +kernel
theorem dX12_selectOf_213 : decode cX12_selectOf 213 = .ok (.aload_n 0, 1) := by decide +kernel
theorem dX12_selectOf_214 : decode cX12_selectOf 214 = .ok (.getfield 52, 3) := by decide +kernel
theorem dX12_selectOf_217 : decode cX12_selectOf 217 = .ok (.iload 7, 2) := by decide +kernel
theorem dX12_selectOf_219 : decode cX12_selectOf 219 = .ok (.iaload, 1) := by decide +kernel
theorem dX12_selectOf_220 : decode cX12_selectOf 220 = .ok (.iconst 5, 1) := by decide +kernel
theorem dX12_selectOf_221 : decode cX12_selectOf 221 = .ok (.if_icmp .ne 60, 3) := by decide +kernel
theorem dX12_selectOf_224 : decode cX12_selectOf 224 = .ok (.aload_n 0, 1) := by decide +kernel
theorem dX12_selectOf_225 : decode cX12_selectOf 225 = .ok (.getfield 302, 3) := by decide +kernel
theorem dX12_selectOf_228 : decode cX12_selectOf 228 = .ok (.iload 6, 2) := by decide +kernel
theorem dX12_selectOf_230 : decode cX12_selectOf 230 = .ok (.aload_n 0, 1) := by decide +kernel
theorem dX12_selectOf_231 : decode cX12_selectOf 231 = .ok (.getfield 64, 3) := by decide +kernel
theorem dX12_selectOf_234 : decode cX12_selectOf 234 = .ok (.iload 7, 2) := by decide +kernel
theorem dX12_selectOf_236 : decode cX12_selectOf 236 = .ok (.iaload, 1) := by decide +kernel
theorem dX12_selectOf_237 : decode cX12_selectOf 237 = .ok (.iconst (-1), 1) := by decide +kernel
theorem dX12_selectOf_238 : decode cX12_selectOf 238 = .ok (.if_icmp .ne 7, 3) := by decide +kernel
theorem dX12_selectOf_241 : decode cX12_selectOf 241 = .ok (.iconst 1, 1) := by decide +kernel
theorem dX12_selectOf_242 : decode cX12_selectOf 242 = .ok (.goto 4, 3) := by decide +kernel
theorem dX12_selectOf_245 : decode cX12_selectOf 245 = .ok (.iconst 3, 1) := by decide +kernel
theorem dX12_selectOf_246 : decode cX12_selectOf 246 = .ok (.iadd, 1) := by decide +kernel
theorem dX12_selectOf_247 : decode cX12_selectOf 247 = .ok (.if_icmp .ne 34, 3) := by decide +kernel
theorem dX12_selectOf_250 : decode cX12_selectOf 250 = .ok (.aload_n 0, 1) := by decide +kernel
theorem dX12_selectOf_251 : decode cX12_selectOf 251 = .ok (.getfield 64, 3) := by decide +kernel
theorem dX12_selectOf_254 : decode cX12_selectOf 254 = .ok (.iload 7, 2) := by decide +kernel
theorem dX12_selectOf_256 : decode cX12_selectOf 256 = .ok (.iaload, 1) := by decide +kernel
theorem dX12_selectOf_257 : decode cX12_selectOf 257 = .ok (.iconst (-1), 1) := by decide +kernel
theorem dX12_selectOf_258 : decode cX12_selectOf 258 = .ok (.if_icmp .ne 13, 3) := by decide +kernel
theorem dX12_selectOf_261 : decode cX12_selectOf 261 = .ok (.aload_n 0, 1) := by decide +kernel
theorem dX12_selectOf_262 : decode cX12_selectOf 262 = .ok (.getfield 73, 3) := by decide +kernel
theorem dX12_selectOf_265 : decode cX12_selectOf 265 = .ok (.iload 7, 2) := by decide +kernel
theorem dX12_selectOf_267 : decode cX12_selectOf 267 = .ok (.iaload, 1) := by decide +kernel
theorem dX12_selectOf_268 : decode cX12_selectOf 268 = .ok (.goto 14, 3) := by decide +kernel
theorem dX12_selectOf_271 : decode cX12_selectOf 271 = .ok (.aload_n 0, 1) := by decide +kernel
theorem dX12_selectOf_272 : decode cX12_selectOf 272 = .ok (.getfield 64, 3) := by decide +kernel
theorem dX12_selectOf_275 : decode cX12_selectOf 275 = .ok (.iload 7, 2) := by decide +kernel
theorem dX12_selectOf_277 : decode cX12_selectOf 277 = .ok (.iaload, 1) := by decide +kernel
theorem dX12_selectOf_278 : decode cX12_selectOf 278 = .ok (.goto 4, 3) := by decide +kernel
theorem dX12_selectOf_281 : decode cX12_selectOf 281 = .ok (.iconst (-1), 1) := by decide +kernel
theorem dX12_selectOf_282 : decode cX12_selectOf 282 = .ok (.istore 8, 2) := by decide +kernel
theorem dX12_selectOf_284 : decode cX12_selectOf 284 = .ok (.aload_n 0, 1) := by decide +kernel
theorem dX12_selectOf_285 : decode cX12_selectOf 285 = .ok (.ldc_w 482, 3) := by decide +kernel
theorem dX12_selectOf_288 : decode cX12_selectOf 288 = .ok (.invokevirtual 326, 3) := by decide +kernel
theorem dX12_selectOf_291 : decode cX12_selectOf 291 = .ok (.ifCond .eq 9, 3) := by decide +kernel
theorem dX12_selectOf_294 : decode cX12_selectOf 294 = .ok (.aload_n 0, 1) := by decide +kernel
theorem dX12_selectOf_295 : decode cX12_selectOf 295 = .ok (.invokevirtual 450, 3) := by decide +kernel
theorem dX12_selectOf_298 : decode cX12_selectOf 298 = .ok (.istore 8, 2) := by decide +kernel
theorem dX12_selectOf_300 : decode cX12_selectOf 300 = .ok (.aload_n 0, 1) := by decide +kernel
theorem dX12_selectOf_301 : decode cX12_selectOf 301 = .ok (.getfield 292, 3) := by decide +kernel
theorem dX12_selectOf_304 : decode cX12_selectOf 304 = .ok (.ifCond .eq 41, 3) := by decide +kernel
theorem dX12_selectOf_307 : decode cX12_selectOf 307 = .ok (.aload_n 0, 1) := by decide +kernel
theorem dX12_selectOf_308 : decode cX12_selectOf 308 = .ok (.getfield 112, 3) := by decide +kernel
theorem dX12_selectOf_311 : decode cX12_selectOf 311 = .ok (.bipush 8, 2) := by decide +kernel
theorem dX12_selectOf_313 : decode cX12_selectOf 313 = .ok (.iload_n 1, 1) := by decide +kernel
theorem dX12_selectOf_314 : decode cX12_selectOf 314 = .ok (.imul, 1) := by decide +kernel
theorem dX12_selectOf_315 : decode cX12_selectOf 315 = .ok (.iload 5, 2) := by decide +kernel
theorem dX12_selectOf_317 : decode cX12_selectOf 317 = .ok (.iadd, 1) := by decide +kernel
theorem dX12_selectOf_318 : decode cX12_selectOf 318 = .ok (.iload 7, 2) := by decide +kernel
theorem dX12_selectOf_320 : decode cX12_selectOf 320 = .ok (.iastore, 1) := by decide +kernel
theorem dX12_selectOf_321 : decode cX12_selectOf 321 = .ok (.aload_n 0, 1) := by decide +kernel
theorem dX12_selectOf_322 : decode cX12_selectOf 322 = .ok (.getfield 115, 3) := by decide +kernel
theorem dX12_selectOf_325 : decode cX12_selectOf 325 = .ok (.bipush 8, 2) := by decide +kernel
theorem dX12_selectOf_327 : decode cX12_selectOf 327 = .ok (.iload_n 1, 1) := by decide +kernel
theorem dX12_selectOf_328 : decode cX12_selectOf 328 = .ok (.imul, 1) := by decide +kernel
theorem dX12_selectOf_329 : decode cX12_selectOf 329 = .ok (.iload 5, 2) := by decide +kernel
theorem dX12_selectOf_331 : decode cX12_selectOf 331 = .ok (.iadd, 1) := by decide +kernel
theorem dX12_selectOf_332 : decode cX12_selectOf 332 = .ok (.iload 8, 2) := by decide +kernel
theorem dX12_selectOf_334 : decode cX12_selectOf 334 = .ok (.iastore, 1) := by decide +kernel
theorem dX12_selectOf_335 : decode cX12_selectOf 335 = .ok (.aload_n 0, 1) := by decide +kernel
theorem dX12_selectOf_336 : decode cX12_selectOf 336 = .ok (.getfield 88, 3) := by decide +kernel
theorem dX12_selectOf_339 : decode cX12_selectOf 339 = .ok (.iload_n 1, 1) := by decide +kernel
theorem dX12_selectOf_340 : decode cX12_selectOf 340 = .ok (.dup2, 1) := by decide +kernel
theorem dX12_selectOf_341 : decode cX12_selectOf 341 = .ok (.iaload, 1) := by decide +kernel
theorem dX12_selectOf_342 : decode cX12_selectOf 342 = .ok (.iconst 1, 1) := by decide +kernel
theorem dX12_selectOf_343 : decode cX12_selectOf 343 = .ok (.iadd, 1) := by decide +kernel
theorem dX12_selectOf_344 : decode cX12_selectOf 344 = .ok (.iastore, 1) := by decide +kernel
theorem dX12_selectOf_345 : decode cX12_selectOf 345 = .ok (.aload_n 0, 1) := by decide +kernel
theorem dX12_selectOf_346 : decode cX12_selectOf 346 = .ok (.bipush 44, 2) := by decide +kernel
theorem dX12_selectOf_348 : decode cX12_selectOf 348 = .ok (.invokevirtual 335, 3) := by decide +kernel
theorem dX12_selectOf_351 : decode cX12_selectOf 351 = .ok (.istore 4, 2) := by decide +kernel
theorem dX12_selectOf_353 : decode cX12_selectOf 353 = .ok (.goto (-220), 3) := by decide +kernel
theorem dX12_selectOf_356 : decode cX12_selectOf 356 = .ok (.aload_n 0, 1) := by decide +kernel
theorem dX12_selectOf_357 : decode cX12_selectOf 357 = .ok (.iconst 0, 1) := by decide +kernel
theorem dX12_selectOf_358 : decode cX12_selectOf 358 = .ok (.putfield 358, 3) := by decide +kernel
theorem dX12_selectOf_361 : decode cX12_selectOf 361 = .ok (.aload_n 0, 1) := by decide +kernel
theorem dX12_selectOf_362 : decode cX12_selectOf 362 = .ok (.ldc_w 484, 3) := by decide +kernel
theorem dX12_selectOf_365 : decode cX12_selectOf 365 = .ok (.invokevirtual 408, 3) := by decide +kernel
theorem dX12_selectOf_368 : decode cX12_selectOf 368 = .ok (.aload_n 0, 1) := by decide +kernel
theorem dX12_selectOf_369 : decode cX12_selectOf 369 = .ok (.iload_n 1, 1) := by decide +kernel
theorem dX12_selectOf_370 : decode cX12_selectOf 370 = .ok (.iconst 0, 1) := by decide +kernel
theorem dX12_selectOf_371 : decode cX12_selectOf 371 = .ok (.iconst (-1), 1) := by decide +kernel
theorem dX12_selectOf_372 : decode cX12_selectOf 372 = .ok (.invokevirtual 486, 3) := by decide +kernel
theorem dX12_selectOf_375 : decode cX12_selectOf 375 = .ok (.aload_n 0, 1) := by decide +kernel
theorem dX12_selectOf_376 : decode cX12_selectOf 376 = .ok (.getfield 292, 3) := by decide +kernel
theorem dX12_selectOf_379 : decode cX12_selectOf 379 = .ok (.ifCond .eq 124, 3) := by decide +kernel
theorem dX12_selectOf_382 : decode cX12_selectOf 382 = .ok (.aload_n 0, 1) := by decide +kernel
theorem dX12_selectOf_383 : decode cX12_selectOf 383 = .ok (.ldc_w 490, 3) := by decide +kernel
theorem dX12_selectOf_386 : decode cX12_selectOf 386 = .ok (.invokevirtual 322, 3) := by decide +kernel
theorem dX12_selectOf_389 : decode cX12_selectOf 389 = .ok (.ifCond .ne 13, 3) := by decide +kernel
theorem dX12_selectOf_392 : decode cX12_selectOf 392 = .ok (.aload_n 0, 1) := by decide +kernel
theorem dX12_selectOf_393 : decode cX12_selectOf 393 = .ok (.ldc_w 492, 3) := by decide +kernel
theorem dX12_selectOf_396 : decode cX12_selectOf 396 = .ok (.invokevirtual 322, 3) := by decide +kernel
theorem dX12_selectOf_399 : decode cX12_selectOf 399 = .ok (.ifCond .eq 104, 3) := by decide +kernel
theorem dX12_selectOf_402 : decode cX12_selectOf 402 = .ok (.aload_n 0, 1) := by decide +kernel
theorem dX12_selectOf_403 : decode cX12_selectOf 403 = .ok (.ldc_w 492, 3) := by decide +kernel
theorem dX12_selectOf_406 : decode cX12_selectOf 406 = .ok (.invokevirtual 326, 3) := by decide +kernel
theorem dX12_selectOf_409 : decode cX12_selectOf 409 = .ok (.istore 5, 2) := by decide +kernel
theorem dX12_selectOf_411 : decode cX12_selectOf 411 = .ok (.aload_n 0, 1) := by decide +kernel
theorem dX12_selectOf_412 : decode cX12_selectOf 412 = .ok (.getfield 43, 3) := by decide +kernel
theorem dX12_selectOf_415 : decode cX12_selectOf 415 = .ok (.aload_n 0, 1) := by decide +kernel
theorem dX12_selectOf_416 : decode cX12_selectOf 416 = .ok (.getfield 302, 3) := by decide +kernel
theorem dX12_selectOf_419 : decode cX12_selectOf 419 = .ok (.iaload, 1) := by decide +kernel
theorem dX12_selectOf_420 : decode cX12_selectOf 420 = .ok (.istore 6, 2) := by decide +kernel
theorem dX12_selectOf_422 : decode cX12_selectOf 422 = .ok (.aload_n 0, 1) := by decide +kernel
theorem dX12_selectOf_423 : decode cX12_selectOf 423 = .ok (.ldc_w 490, 3) := by decide +kernel
theorem dX12_selectOf_426 : decode cX12_selectOf 426 = .ok (.invokevirtual 408, 3) := by decide +kernel
theorem dX12_selectOf_429 : decode cX12_selectOf 429 = .ok (.iconst 3, 1) := by decide +kernel
theorem dX12_selectOf_430 : decode cX12_selectOf 430 = .ok (.iload_n 1, 1) := by decide +kernel
theorem dX12_selectOf_431 : decode cX12_selectOf 431 = .ok (.imul, 1) := by decide +kernel
theorem dX12_selectOf_432 : decode cX12_selectOf 432 = .ok (.aload_n 0, 1) := by decide +kernel
theorem dX12_selectOf_433 : decode cX12_selectOf 433 = .ok (.getfield 91, 3) := by decide +kernel
theorem dX12_selectOf_436 : decode cX12_selectOf 436 = .ok (.iload_n 1, 1) := by decide +kernel
theorem dX12_selectOf_437 : decode cX12_selectOf 437 = .ok (.iaload, 1) := by decide +kernel
theorem dX12_selectOf_438 : decode cX12_selectOf 438 = .ok (.iadd, 1) := by decide +kernel
theorem dX12_selectOf_439 : decode cX12_selectOf 439 = .ok (.istore 7, 2) := by decide +kernel
theorem dX12_selectOf_441 : decode cX12_selectOf 441 = .ok (.aload_n 0, 1) := by decide +kernel
theorem dX12_selectOf_442 : decode cX12_selectOf 442 = .ok (.iload_n 1, 1) := by decide +kernel
theorem dX12_selectOf_443 : decode cX12_selectOf 443 = .ok (.iload 5, 2) := by decide +kernel
theorem dX12_selectOf_445 : decode cX12_selectOf 445 = .ok (.iload 6, 2) := by decide +kernel
theorem dX12_selectOf_447 : decode cX12_selectOf 447 = .ok (.invokevirtual 486, 3) := by decide +kernel
theorem dX12_selectOf_450 : decode cX12_selectOf 450 = .ok (.aload_n 0, 1) := by decide +kernel
theorem dX12_selectOf_451 : decode cX12_selectOf 451 = .ok (.iload_n 1, 1) := by decide +kernel
theorem dX12_selectOf_452 : decode cX12_selectOf 452 = .ok (.putfield 447, 3) := by decide +kernel
theorem dX12_selectOf_455 : decode cX12_selectOf 455 = .ok (.aload_n 0, 1) := by decide +kernel
theorem dX12_selectOf_456 : decode cX12_selectOf 456 = .ok (.iconst 0, 1) := by decide +kernel
theorem dX12_selectOf_457 : decode cX12_selectOf 457 = .ok (.putfield 358, 3) := by decide +kernel
theorem dX12_selectOf_460 : decode cX12_selectOf 460 = .ok (.aload_n 0, 1) := by decide +kernel
theorem dX12_selectOf_461 : decode cX12_selectOf 461 = .ok (.ldc_w 493, 3) := by decide +kernel
theorem dX12_selectOf_464 : decode cX12_selectOf 464 = .ok (.invokevirtual 408, 3) := by decide +kernel
theorem dX12_selectOf_467 : decode cX12_selectOf 467 = .ok (.aload_n 0, 1) := by decide +kernel
theorem dX12_selectOf_468 : decode cX12_selectOf 468 = .ok (.getfield 292, 3) := by decide +kernel
theorem dX12_selectOf_471 : decode cX12_selectOf 471 = .ok (.ifCond .eq 10, 3) := by decide +kernel
theorem dX12_selectOf_474 : decode cX12_selectOf 474 = .ok (.aload_n 0, 1) := by decide +kernel
theorem dX12_selectOf_475 : decode cX12_selectOf 475 = .ok (.invokevirtual 429, 3) := by decide +kernel
theorem dX12_selectOf_478 : decode cX12_selectOf 478 = .ok (.goto 4, 3) := by decide +kernel
theorem dX12_selectOf_481 : decode cX12_selectOf 481 = .ok (.iconst 0, 1) := by decide +kernel
theorem dX12_selectOf_482 : decode cX12_selectOf 482 = .ok (.istore 8, 2) := by decide +kernel
theorem dX12_selectOf_484 : decode cX12_selectOf 484 = .ok (.aload_n 0, 1) := by decide +kernel
theorem dX12_selectOf_485 : decode cX12_selectOf 485 = .ok (.getfield 292, 3) := by decide +kernel
theorem dX12_selectOf_488 : decode cX12_selectOf 488 = .ok (.ifCond .eq 12, 3) := by decide +kernel
theorem dX12_selectOf_491 : decode cX12_selectOf 491 = .ok (.aload_n 0, 1) := by decide +kernel
theorem dX12_selectOf_492 : decode cX12_selectOf 492 = .ok (.getfield 154, 3) := by decide +kernel
theorem dX12_selectOf_495 : decode cX12_selectOf 495 = .ok (.iload 7, 2) := by decide +kernel
theorem dX12_selectOf_497 : decode cX12_selectOf 497 = .ok (.iload 8, 2) := by decide +kernel
theorem dX12_selectOf_499 : decode cX12_selectOf 499 = .ok (.iastore, 1) := by decide +kernel
theorem dX12_selectOf_500 : decode cX12_selectOf 500 = .ok (.goto (-125), 3) := by decide +kernel
theorem dX12_selectOf_503 : decode cX12_selectOf 503 = .ok (.aload_n 0, 1) := by decide +kernel
theorem dX12_selectOf_504 : decode cX12_selectOf 504 = .ok (.iload_n 1, 1) := by decide +kernel
theorem dX12_selectOf_505 : decode cX12_selectOf 505 = .ok (.putfield 447, 3) := by decide +kernel
theorem dX12_selectOf_508 : decode cX12_selectOf 508 = .ok (.aload_n 0, 1) := by decide +kernel
theorem dX12_selectOf_509 : decode cX12_selectOf 509 = .ok (.iconst 0, 1) := by decide +kernel
theorem dX12_selectOf_510 : decode cX12_selectOf 510 = .ok (.putfield 358, 3) := by decide +kernel
theorem dX12_selectOf_513 : decode cX12_selectOf 513 = .ok (.aload_n 0, 1) := by decide +kernel
theorem dX12_selectOf_514 : decode cX12_selectOf 514 = .ok (.ldc_w 495, 3) := by decide +kernel
theorem dX12_selectOf_517 : decode cX12_selectOf 517 = .ok (.invokevirtual 326, 3) := by decide +kernel
theorem dX12_selectOf_520 : decode cX12_selectOf 520 = .ok (.ifCond .eq 24, 3) := by decide +kernel
theorem dX12_selectOf_523 : decode cX12_selectOf 523 = .ok (.aload_n 0, 1) := by decide +kernel
theorem dX12_selectOf_524 : decode cX12_selectOf 524 = .ok (.getfield 94, 3) := by decide +kernel
theorem dX12_selectOf_527 : decode cX12_selectOf 527 = .ok (.iload_n 1, 1) := by decide +kernel
theorem dX12_selectOf_528 : decode cX12_selectOf 528 = .ok (.aload_n 0, 1) := by decide +kernel
theorem dX12_selectOf_529 : decode cX12_selectOf 529 = .ok (.getfield 292, 3) := by decide +kernel
theorem dX12_selectOf_532 : decode cX12_selectOf 532 = .ok (.ifCond .eq 10, 3) := by decide +kernel
theorem dX12_selectOf_535 : decode cX12_selectOf 535 = .ok (.aload_n 0, 1) := by decide +kernel
theorem dX12_selectOf_536 : decode cX12_selectOf 536 = .ok (.invokevirtual 429, 3) := by decide +kernel
theorem dX12_selectOf_539 : decode cX12_selectOf 539 = .ok (.goto 4, 3) := by decide +kernel
theorem dX12_selectOf_542 : decode cX12_selectOf 542 = .ok (.iconst 0, 1) := by decide +kernel
theorem dX12_selectOf_543 : decode cX12_selectOf 543 = .ok (.iastore, 1) := by decide +kernel
theorem dX12_selectOf_544 : decode cX12_selectOf 544 = .ok (.aload_n 0, 1) := by decide +kernel
theorem dX12_selectOf_545 : decode cX12_selectOf 545 = .ok (.ldc_w 497, 3) := by decide +kernel
theorem dX12_selectOf_548 : decode cX12_selectOf 548 = .ok (.invokevirtual 322, 3) := by decide +kernel
theorem dX12_selectOf_551 : decode cX12_selectOf 551 = .ok (.ifCond .eq 185, 3) := by decide +kernel
theorem dX12_selectOf_554 : decode cX12_selectOf 554 = .ok (.aload_n 0, 1) := by decide +kernel
theorem dX12_selectOf_555 : decode cX12_selectOf 555 = .ok (.getfield 100, 3) := by decide +kernel
theorem dX12_selectOf_558 : decode cX12_selectOf 558 = .ok (.iload_n 1, 1) := by decide +kernel
theorem dX12_selectOf_559 : decode cX12_selectOf 559 = .ok (.aload_n 0, 1) := by decide +kernel
theorem dX12_selectOf_560 : decode cX12_selectOf 560 = .ok (.getfield 43, 3) := by decide +kernel
theorem dX12_selectOf_563 : decode cX12_selectOf 563 = .ok (.aload_n 0, 1) := by decide +kernel
theorem dX12_selectOf_564 : decode cX12_selectOf 564 = .ok (.getfield 302, 3) := by decide +kernel
theorem dX12_selectOf_567 : decode cX12_selectOf 567 = .ok (.iaload, 1) := by decide +kernel
theorem dX12_selectOf_568 : decode cX12_selectOf 568 = .ok (.iastore, 1) := by decide +kernel
theorem dX12_selectOf_569 : decode cX12_selectOf 569 = .ok (.aload_n 0, 1) := by decide +kernel
theorem dX12_selectOf_570 : decode cX12_selectOf 570 = .ok (.dup, 1) := by decide +kernel
theorem dX12_selectOf_571 : decode cX12_selectOf 571 = .ok (.getfield 302, 3) := by decide +kernel
theorem dX12_selectOf_574 : decode cX12_selectOf 574 = .ok (.iconst 1, 1) := by decide +kernel
theorem dX12_selectOf_575 : decode cX12_selectOf 575 = .ok (.iadd, 1) := by decide +kernel
theorem dX12_selectOf_576 : decode cX12_selectOf 576 = .ok (.putfield 302, 3) := by decide +kernel
theorem dX12_selectOf_579 : decode cX12_selectOf 579 = .ok (.aload_n 0, 1) := by decide +kernel
theorem dX12_selectOf_580 : decode cX12_selectOf 580 = .ok (.ldc_w 468, 3) := by decide +kernel
theorem dX12_selectOf_583 : decode cX12_selectOf 583 = .ok (.invokevirtual 408, 3) := by decide +kernel
theorem dX12_selectOf_586 : decode cX12_selectOf 586 = .ok (.iconst 1, 1) := by decide +kernel
theorem dX12_selectOf_587 : decode cX12_selectOf 587 = .ok (.istore 4, 2) := by decide +kernel
theorem dX12_selectOf_589 : decode cX12_selectOf 589 = .ok (.iload 4, 2) := by decide +kernel
theorem dX12_selectOf_591 : decode cX12_selectOf 591 = .ok (.ifCond .eq 145, 3) := by decide +kernel
theorem dX12_selectOf_594 : decode cX12_selectOf 594 = .ok (.aload_n 0, 1) := by decide +kernel
theorem dX12_selectOf_595 : decode cX12_selectOf 595 = .ok (.getfield 292, 3) := by decide +kernel
theorem dX12_selectOf_598 : decode cX12_selectOf 598 = .ok (.ifCond .eq 138, 3) := by decide +kernel
theorem dX12_selectOf_601 : decode cX12_selectOf 601 = .ok (.aload_n 0, 1) := by decide +kernel
theorem dX12_selectOf_602 : decode cX12_selectOf 602 = .ok (.getfield 97, 3) := by decide +kernel
theorem dX12_selectOf_605 : decode cX12_selectOf 605 = .ok (.iload_n 1, 1) := by decide +kernel
theorem dX12_selectOf_606 : decode cX12_selectOf 606 = .ok (.iaload, 1) := by decide +kernel
theorem dX12_selectOf_607 : decode cX12_selectOf 607 = .ok (.istore 5, 2) := by decide +kernel
theorem dX12_selectOf_609 : decode cX12_selectOf 609 = .ok (.iload 5, 2) := by decide +kernel
theorem dX12_selectOf_611 : decode cX12_selectOf 611 = .ok (.bipush 8, 2) := by decide +kernel
theorem dX12_selectOf_613 : decode cX12_selectOf 613 = .ok (.if_icmp .ne 26, 3) := by decide +kernel
theorem dX12_selectOf_616 : decode cX12_selectOf 616 = .ok (.aload_n 0, 1) := by decide +kernel
theorem dX12_selectOf_617 : decode cX12_selectOf 617 = .ok (.iconst 0, 1) := by decide +kernel
theorem dX12_selectOf_618 : decode cX12_selectOf 618 = .ok (.invokevirtual 417, 3) := by decide +kernel
theorem dX12_selectOf_621 : decode cX12_selectOf 621 = .ok (.ifCond .eq 18, 3) := by decide +kernel
theorem dX12_selectOf_624 : decode cX12_selectOf 624 = .ok (.aload_n 0, 1) := by decide +kernel
theorem dX12_selectOf_625 : decode cX12_selectOf 625 = .ok (.bipush 7, 2) := by decide +kernel
theorem dX12_selectOf_627 : decode cX12_selectOf 627 = .ok (.aload_n 0, 1) := by decide +kernel
theorem dX12_selectOf_628 : decode cX12_selectOf 628 = .ok (.getfield 43, 3) := by decide +kernel
theorem dX12_selectOf_631 : decode cX12_selectOf 631 = .ok (.aload_n 0, 1) := by decide +kernel
theorem dX12_selectOf_632 : decode cX12_selectOf 632 = .ok (.getfield 302, 3) := by decide +kernel
theorem dX12_selectOf_635 : decode cX12_selectOf 635 = .ok (.iaload, 1) := by decide +kernel
theorem dX12_selectOf_636 : decode cX12_selectOf 636 = .ok (.invokevirtual 305, 3) := by decide +kernel
theorem dX12_selectOf_639 : decode cX12_selectOf 639 = .ok (.aload_n 0, 1) := by decide +kernel
theorem dX12_selectOf_640 : decode cX12_selectOf 640 = .ok (.getfield 292, 3) := by decide +kernel
theorem dX12_selectOf_643 : decode cX12_selectOf 643 = .ok (.ifCond .eq 10, 3) := by decide +kernel
theorem dX12_selectOf_646 : decode cX12_selectOf 646 = .ok (.aload_n 0, 1) := by decide +kernel
theorem dX12_selectOf_647 : decode cX12_selectOf 647 = .ok (.invokevirtual 429, 3) := by decide +kernel
theorem dX12_selectOf_650 : decode cX12_selectOf 650 = .ok (.goto 4, 3) := by decide +kernel
theorem dX12_selectOf_653 : decode cX12_selectOf 653 = .ok (.iconst 0, 1) := by decide +kernel
theorem dX12_selectOf_654 : decode cX12_selectOf 654 = .ok (.istore 6, 2) := by decide +kernel
theorem dX12_selectOf_656 : decode cX12_selectOf 656 = .ok (.aload_n 0, 1) := by decide +kernel
theorem dX12_selectOf_657 : decode cX12_selectOf 657 = .ok (.ldc_w 482, 3) := by decide +kernel
theorem dX12_selectOf_660 : decode cX12_selectOf 660 = .ok (.invokevirtual 408, 3) := by decide +kernel
theorem dX12_selectOf_663 : decode cX12_selectOf 663 = .ok (.aload_n 0, 1) := by decide +kernel
theorem dX12_selectOf_664 : decode cX12_selectOf 664 = .ok (.getfield 292, 3) := by decide +kernel
theorem dX12_selectOf_667 : decode cX12_selectOf 667 = .ok (.ifCond .eq 10, 3) := by decide +kernel
theorem dX12_selectOf_670 : decode cX12_selectOf 670 = .ok (.aload_n 0, 1) := by decide +kernel
theorem dX12_selectOf_671 : decode cX12_selectOf 671 = .ok (.invokevirtual 450, 3) := by decide +kernel
theorem dX12_selectOf_674 : decode cX12_selectOf 674 = .ok (.goto 4, 3) := by decide +kernel
theorem dX12_selectOf_677 : decode cX12_selectOf 677 = .ok (.iconst 0, 1) := by decide +kernel
theorem dX12_selectOf_678 : decode cX12_selectOf 678 = .ok (.istore 7, 2) := by decide +kernel
theorem dX12_selectOf_680 : decode cX12_selectOf 680 = .ok (.aload_n 0, 1) := by decide +kernel
theorem dX12_selectOf_681 : decode cX12_selectOf 681 = .ok (.getfield 292, 3) := by decide +kernel
theorem dX12_selectOf_684 : decode cX12_selectOf 684 = .ok (.ifCond .eq 41, 3) := by decide +kernel
theorem dX12_selectOf_687 : decode cX12_selectOf 687 = .ok (.aload_n 0, 1) := by decide +kernel
theorem dX12_selectOf_688 : decode cX12_selectOf 688 = .ok (.getfield 121, 3) := by decide +kernel
theorem dX12_selectOf_691 : decode cX12_selectOf 691 = .ok (.bipush 8, 2) := by decide +kernel
theorem dX12_selectOf_693 : decode cX12_selectOf 693 = .ok (.iload_n 1, 1) := by decide +kernel
theorem dX12_selectOf_694 : decode cX12_selectOf 694 = .ok (.imul, 1) := by decide +kernel
theorem dX12_selectOf_695 : decode cX12_selectOf 695 = .ok (.iload 5, 2) := by decide +kernel
theorem dX12_selectOf_697 : decode cX12_selectOf 697 = .ok (.iadd, 1) := by decide +kernel
theorem dX12_selectOf_698 : decode cX12_selectOf 698 = .ok (.iload 6, 2) := by decide +kernel
theorem dX12_selectOf_700 : decode cX12_selectOf 700 = .ok (.iastore, 1) := by decide +kernel
theorem dX12_selectOf_701 : decode cX12_selectOf 701 = .ok (.aload_n 0, 1) := by decide +kernel
theorem dX12_selectOf_702 : decode cX12_selectOf 702 = .ok (.getfield 124, 3) := by decide +kernel
theorem dX12_selectOf_705 : decode cX12_selectOf 705 = .ok (.bipush 8, 2) := by decide +kernel
theorem dX12_selectOf_707 : decode cX12_selectOf 707 = .ok (.iload_n 1, 1) := by decide +kernel
theorem dX12_selectOf_708 : decode cX12_selectOf 708 = .ok (.imul, 1) := by decide +kernel
theorem dX12_selectOf_709 : decode cX12_selectOf 709 = .ok (.iload 5, 2) := by decide +kernel
theorem dX12_selectOf_711 : decode cX12_selectOf 711 = .ok (.iadd, 1) := by decide +kernel
theorem dX12_selectOf_712 : decode cX12_selectOf 712 = .ok (.iload 7, 2) := by decide +kernel
theorem dX12_selectOf_714 : decode cX12_selectOf 714 = .ok (.iastore, 1) := by decide +kernel
theorem dX12_selectOf_715 : decode cX12_selectOf 715 = .ok (.aload_n 0, 1) := by decide +kernel
theorem dX12_selectOf_716 : decode cX12_selectOf 716 = .ok (.getfield 97, 3) := by decide +kernel
theorem dX12_selectOf_719 : decode cX12_selectOf 719 = .ok (.iload_n 1, 1) := by decide +kernel
theorem dX12_selectOf_720 : decode cX12_selectOf 720 = .ok (.dup2, 1) := by decide +kernel
theorem dX12_selectOf_721 : decode cX12_selectOf 721 = .ok (.iaload, 1) := by decide +kernel
theorem dX12_selectOf_722 : decode cX12_selectOf 722 = .ok (.iconst 1, 1) := by decide +kernel
theorem dX12_selectOf_723 : decode cX12_selectOf 723 = .ok (.iadd, 1) := by decide +kernel
theorem dX12_selectOf_724 : decode cX12_selectOf 724 = .ok (.iastore, 1) := by decide +kernel
theorem dX12_selectOf_725 : decode cX12_selectOf 725 = .ok (.aload_n 0, 1) := by decide +kernel
theorem dX12_selectOf_726 : decode cX12_selectOf 726 = .ok (.bipush 44, 2) := by decide +kernel
theorem dX12_selectOf_728 : decode cX12_selectOf 728 = .ok (.invokevirtual 335, 3) := by decide +kernel
theorem dX12_selectOf_731 : decode cX12_selectOf 731 = .ok (.istore 4, 2) := by decide +kernel
theorem dX12_selectOf_733 : decode cX12_selectOf 733 = .ok (.goto (-144), 3) := by decide +kernel
theorem dX12_selectOf_736 : decode cX12_selectOf 736 = .ok (.aload_n 0, 1) := by decide +kernel
theorem dX12_selectOf_737 : decode cX12_selectOf 737 = .ok (.ldc_w 498, 3) := by decide +kernel
theorem dX12_selectOf_740 : decode cX12_selectOf 740 = .ok (.invokevirtual 326, 3) := by decide +kernel
theorem dX12_selectOf_743 : decode cX12_selectOf 743 = .ok (.ifCond .eq 34, 3) := by decide +kernel
theorem dX12_selectOf_746 : decode cX12_selectOf 746 = .ok (.aload_n 0, 1) := by decide +kernel
theorem dX12_selectOf_747 : decode cX12_selectOf 747 = .ok (.iconst 1, 1) := by decide +kernel
theorem dX12_selectOf_748 : decode cX12_selectOf 748 = .ok (.putfield 358, 3) := by decide +kernel
theorem dX12_selectOf_751 : decode cX12_selectOf 751 = .ok (.aload_n 0, 1) := by decide +kernel
theorem dX12_selectOf_752 : decode cX12_selectOf 752 = .ok (.getfield 103, 3) := by decide +kernel
theorem dX12_selectOf_755 : decode cX12_selectOf 755 = .ok (.iload_n 1, 1) := by decide +kernel
theorem dX12_selectOf_756 : decode cX12_selectOf 756 = .ok (.aload_n 0, 1) := by decide +kernel
theorem dX12_selectOf_757 : decode cX12_selectOf 757 = .ok (.getfield 292, 3) := by decide +kernel
theorem dX12_selectOf_760 : decode cX12_selectOf 760 = .ok (.ifCond .eq 10, 3) := by decide +kernel
theorem dX12_selectOf_763 : decode cX12_selectOf 763 = .ok (.aload_n 0, 1) := by decide +kernel
theorem dX12_selectOf_764 : decode cX12_selectOf 764 = .ok (.invokevirtual 429, 3) := by decide +kernel
theorem dX12_selectOf_767 : decode cX12_selectOf 767 = .ok (.goto 4, 3) := by decide +kernel
theorem dX12_selectOf_770 : decode cX12_selectOf 770 = .ok (.iconst 0, 1) := by decide +kernel
theorem dX12_selectOf_771 : decode cX12_selectOf 771 = .ok (.iastore, 1) := by decide +kernel
theorem dX12_selectOf_772 : decode cX12_selectOf 772 = .ok (.aload_n 0, 1) := by decide +kernel
theorem dX12_selectOf_773 : decode cX12_selectOf 773 = .ok (.iconst 0, 1) := by decide +kernel
theorem dX12_selectOf_774 : decode cX12_selectOf 774 = .ok (.putfield 358, 3) := by decide +kernel
theorem dX12_selectOf_777 : decode cX12_selectOf 777 = .ok (.aload_n 0, 1) := by decide +kernel
theorem dX12_selectOf_778 : decode cX12_selectOf 778 = .ok (.iload_n 2, 1) := by decide +kernel
theorem dX12_selectOf_779 : decode cX12_selectOf 779 = .ok (.putfield 447, 3) := by decide +kernel
theorem dX12_selectOf_782 : decode cX12_selectOf 782 = .ok (.iload_n 1, 1) := by decide +kernel
theorem dX12_selectOf_783 : decode cX12_selectOf 783 = .ok (.ireturn, 1) := by decide +kernel
def m_selectOf_b777 (F : Nat) (T : TG_queryOf) (cs1 : RS) (u1 : Int32) (u2 : Int32) : Option (RS × Int32) := some (setF cs1 71 u2, u1)
def m_selectOf_b771 (F : Nat) (T : TG_queryOf) (cs1 : RS) (u1 : Int32) (u2 : Int32) (y0 : Int32) (y1 : Int32) : Option (RS × Int32) := Option.bind (wrI cs1 41 60 y1 y0) fun cs_1 => m_selectOf_b777 F T (setF cs_1 72 0) u1 u2
def m_selectOf_b736 (F : Nat) (T : TG_queryOf) (cs1 : RS) (u1 : Int32) (u2 : Int32) : Option (RS × Int32) := Option.bind (m_takeWord F cs1 34) fun z_2 => if z_2.2 = 0 then (m_selectOf_b777 F T z_2.1 u1 u2) else (if ((setF z_2.1 72 1).1 21) = 0 then (m_selectOf_b771 F T (setF z_2.1 72 1) u1 u2 0 u1) else (Option.bind (m_expr F 300 (setF z_2.1 72 1) ) fun z_5 => m_selectOf_b771 F T z_5.1 u1 u2 z_5.2 u1))
def m_selectOf_b725 (F : Nat) (T : TG_queryOf) (rc589 : RS → Int32 → Int32 → Int32 → Option (RS × Int32)) (cs1 : RS) (u1 : Int32) (u2 : Int32) : Option (RS × Int32) := Option.bind (m_takeSign F cs1 44) fun z_6 => rc589 z_6.1 u1 u2 z_6.2
def m_selectOf_b678 (F : Nat) (T : TG_queryOf) (rc589 : RS → Int32 → Int32 → Int32 → Option (RS × Int32)) (cs1 : RS) (u1 : Int32) (u2 : Int32) (u5 : Int32) (u6 : Int32) (y0 : Int32) : Option (RS × Int32) := if (cs1.1 21) = 0 then (m_selectOf_b725 F T rc589 cs1 u1 u2) else (Option.bind (wrI cs1 47 480 ((8 * u1) + u5) u6) fun cs_8 => Option.bind (wrI cs_8 48 480 ((8 * u1) + u5) y0) fun cs_9 => Option.bind (rdI (cs_9.2.2.1 39) 60 u1) fun v_10 => Option.bind (wrI cs_9 39 60 u1 (v_10 + 1)) fun cs_11 => m_selectOf_b725 F T rc589 cs_11 u1 u2)
def m_selectOf_b654 (F : Nat) (T : TG_queryOf) (rc589 : RS → Int32 → Int32 → Int32 → Option (RS × Int32)) (cs1 : RS) (u1 : Int32) (u2 : Int32) (u5 : Int32) (y0 : Int32) : Option (RS × Int32) := Option.bind (m_needWord F cs1 25) fun cs_12 => if (cs_12.1 21) = 0 then (m_selectOf_b678 F T rc589 cs_12 u1 u2 u5 y0 0) else (Option.bind (m_name F cs_12 ) fun z_14 => m_selectOf_b678 F T rc589 z_14.1 u1 u2 u5 y0 z_14.2)
def m_selectOf_b639 (F : Nat) (T : TG_queryOf) (rc589 : RS → Int32 → Int32 → Int32 → Option (RS × Int32)) (cs1 : RS) (u1 : Int32) (u2 : Int32) (u5 : Int32) : Option (RS × Int32) := if (cs1.1 21) = 0 then (m_selectOf_b654 F T rc589 cs1 u1 u2 u5 0) else (Option.bind (m_expr F 300 cs1 ) fun z_16 => m_selectOf_b654 F T rc589 z_16.1 u1 u2 u5 z_16.2)
def m_selectOf_L589 (F : Nat) (T : TG_queryOf) : Nat → RS → Int32 → Int32 → Int32 → Option (RS × Int32)
  | 0, _, _, _, _ => none
  | lf_589 + 1, cs1, u1, u2, u4 => if u4 = 0 then (m_selectOf_b736 F T cs1 u1 u2) else (if (cs1.1 21) = 0 then (m_selectOf_b736 F T cs1 u1 u2) else (Option.bind (rdI (cs1.2.2.1 39) 60 u1) fun v_19 => if v_19 = 8 then (Option.bind (m_begins F cs1 0) fun v_21 => if v_21 = 0 then (m_selectOf_b639 F T (m_selectOf_L589 F T lf_589) cs1 u1 u2 v_19) else (Option.bind (rdI (cs1.2.2.1 15) 2001 (cs1.1 18)) fun v_23 => Option.bind (m_tell F cs1 7 v_23) fun cs_24 => m_selectOf_b639 F T (m_selectOf_L589 F T lf_589) cs_24 u1 u2 v_19)) else (m_selectOf_b639 F T (m_selectOf_L589 F T lf_589) cs1 u1 u2 v_19)))
def m_selectOf_b544 (F : Nat) (T : TG_queryOf) (cs1 : RS) (u1 : Int32) (u2 : Int32) : Option (RS × Int32) := Option.bind (m_isWord F cs1 32) fun v_25 => if v_25 = 0 then (m_selectOf_b736 F T cs1 u1 u2) else (Option.bind (rdI (cs1.2.2.1 15) 2001 (cs1.1 18)) fun v_27 => Option.bind (wrI cs1 40 60 u1 v_27) fun cs_28 => Option.bind (m_needWord F (setF cs_28 18 ((cs_28.1 18) + 1)) 33) fun cs_29 => m_selectOf_L589 F T F cs_29 u1 u2 1)
def m_selectOf_b543 (F : Nat) (T : TG_queryOf) (cs1 : RS) (u1 : Int32) (u2 : Int32) (y0 : Int32) (y1 : Int32) : Option (RS × Int32) := Option.bind (wrI cs1 38 60 y1 y0) fun cs_30 => m_selectOf_b544 F T cs_30 u1 u2
def m_selectOf_b503 (F : Nat) (T : TG_queryOf) (cs1 : RS) (u1 : Int32) (u2 : Int32) : Option (RS × Int32) := Option.bind (m_takeWord F (setF (setF cs1 71 u1) 72 0) 31) fun z_31 => if z_31.2 = 0 then (m_selectOf_b544 F T z_31.1 u1 u2) else (if (z_31.1.1 21) = 0 then (m_selectOf_b543 F T z_31.1 u1 u2 0 u1) else (Option.bind (m_expr F 300 z_31.1 ) fun z_34 => m_selectOf_b543 F T z_34.1 u1 u2 z_34.2 u1))
def m_selectOf_b500 (F : Nat) (T : TG_queryOf) (rc375 : RS → Int32 → Int32 → Option (RS × Int32)) (cs1 : RS) (u1 : Int32) (u2 : Int32) : Option (RS × Int32) := rc375 cs1 u1 u2
def m_selectOf_b482 (F : Nat) (T : TG_queryOf) (rc375 : RS → Int32 → Int32 → Option (RS × Int32)) (cs1 : RS) (u1 : Int32) (u2 : Int32) (u7 : Int32) (y0 : Int32) : Option (RS × Int32) := if (cs1.1 21) = 0 then (m_selectOf_b500 F T rc375 cs1 u1 u2) else (Option.bind (wrI cs1 58 180 u7 y0) fun cs_36 => m_selectOf_b500 F T rc375 cs_36 u1 u2)
def m_selectOf_b402 (F : Nat) (T : TG_queryOf) (rc375 : RS → Int32 → Int32 → Option (RS × Int32)) (cs1 : RS) (u1 : Int32) (u2 : Int32) : Option (RS × Int32) := Option.bind (m_takeWord F cs1 29) fun z_37 => Option.bind (rdI (z_37.1.2.2.1 15) 2001 (z_37.1.1 18)) fun v_38 => Option.bind (m_needWord F z_37.1 28) fun cs_39 => Option.bind (rdI (cs_39.2.2.1 37) 60 u1) fun v_40 => Option.bind (T.2.2 cs_39 u1 z_37.2 v_38) fun cs_41 => Option.bind (m_needWord F (setF (setF cs_41 71 u1) 72 0) 30) fun cs_42 => if (cs_42.1 21) = 0 then (m_selectOf_b482 F T rc375 cs_42 u1 u2 ((3 * u1) + v_40) 0) else (Option.bind (m_expr F 300 cs_42 ) fun z_44 => m_selectOf_b482 F T rc375 z_44.1 u1 u2 ((3 * u1) + v_40) z_44.2)
def m_selectOf_L375 (F : Nat) (T : TG_queryOf) : Nat → RS → Int32 → Int32 → Option (RS × Int32)
  | 0, _, _, _ => none
  | lf_375 + 1, cs1, u1, u2 => if (cs1.1 21) = 0 then (m_selectOf_b503 F T cs1 u1 u2) else (Option.bind (m_isWord F cs1 28) fun v_46 => if v_46 = 0 then (Option.bind (m_isWord F cs1 29) fun v_48 => if v_48 = 0 then (m_selectOf_b503 F T cs1 u1 u2) else (m_selectOf_b402 F T (m_selectOf_L375 F T lf_375) cs1 u1 u2)) else (m_selectOf_b402 F T (m_selectOf_L375 F T lf_375) cs1 u1 u2))
def m_selectOf_b356 (F : Nat) (T : TG_queryOf) (cs1 : RS) (u1 : Int32) (u2 : Int32) : Option (RS × Int32) := Option.bind (m_needWord F (setF cs1 72 0) 26) fun cs_50 => Option.bind (T.2.2 cs_50 u1 0 (-1)) fun cs_51 => m_selectOf_L375 F T F cs_51 u1 u2
def m_selectOf_b345 (F : Nat) (T : TG_queryOf) (rc133 : RS → Int32 → Int32 → Int32 → Option (RS × Int32)) (cs1 : RS) (u1 : Int32) (u2 : Int32) : Option (RS × Int32) := Option.bind (m_takeSign F cs1 44) fun z_52 => rc133 z_52.1 u1 u2 z_52.2
def m_selectOf_b300 (F : Nat) (T : TG_queryOf) (rc133 : RS → Int32 → Int32 → Int32 → Option (RS × Int32)) (cs1 : RS) (u1 : Int32) (u2 : Int32) (u5 : Int32) (u7 : Int32) (u8 : Int32) : Option (RS × Int32) := if (cs1.1 21) = 0 then (m_selectOf_b345 F T rc133 cs1 u1 u2) else (Option.bind (wrI cs1 44 480 ((8 * u1) + u5) u7) fun cs_54 => Option.bind (wrI cs_54 45 480 ((8 * u1) + u5) u8) fun cs_55 => Option.bind (rdI (cs_55.2.2.1 36) 60 u1) fun v_56 => Option.bind (wrI cs_55 36 60 u1 (v_56 + 1)) fun cs_57 => m_selectOf_b345 F T rc133 cs_57 u1 u2)
def m_selectOf_b282 (F : Nat) (T : TG_queryOf) (rc133 : RS → Int32 → Int32 → Int32 → Option (RS × Int32)) (cs1 : RS) (u1 : Int32) (u2 : Int32) (u5 : Int32) (u7 : Int32) (y0 : Int32) : Option (RS × Int32) := Option.bind (m_takeWord F cs1 25) fun z_58 => if z_58.2 = 0 then (m_selectOf_b300 F T rc133 z_58.1 u1 u2 u5 u7 y0) else (Option.bind (m_name F z_58.1 ) fun z_60 => m_selectOf_b300 F T rc133 z_60.1 u1 u2 u5 u7 z_60.2)
def m_selectOf_b281 (F : Nat) (T : TG_queryOf) (rc133 : RS → Int32 → Int32 → Int32 → Option (RS × Int32)) (cs1 : RS) (u1 : Int32) (u2 : Int32) (u5 : Int32) (u7 : Int32) : Option (RS × Int32) := m_selectOf_b282 F T rc133 cs1 u1 u2 u5 u7 (-1)
def m_selectOf_b246 (F : Nat) (T : TG_queryOf) (rc133 : RS → Int32 → Int32 → Int32 → Option (RS × Int32)) (cs1 : RS) (u1 : Int32) (u2 : Int32) (u5 : Int32) (u7 : Int32) (y0 : Int32) (y1 : Int32) (y2 : Int32) : Option (RS × Int32) := if y2 = (y1 + y0) then (Option.bind (rdI (cs1.2.2.1 27) 121 u7) fun v_62 => if v_62 = (-1) then (Option.bind (rdI (cs1.2.2.1 30) 121 u7) fun v_65 => m_selectOf_b282 F T rc133 cs1 u1 u2 u5 u7 v_65) else (Option.bind (rdI (cs1.2.2.1 27) 121 u7) fun v_64 => m_selectOf_b282 F T rc133 cs1 u1 u2 u5 u7 v_64)) else (m_selectOf_b281 F T rc133 cs1 u1 u2 u5 u7)
def m_selectOf_b204 (F : Nat) (T : TG_queryOf) (rc133 : RS → Int32 → Int32 → Int32 → Option (RS × Int32)) (cs1 : RS) (u1 : Int32) (u2 : Int32) (u5 : Int32) (u6 : Int32) (y0 : Int32) : Option (RS × Int32) := if (cs1.1 21) = 0 then (m_selectOf_b281 F T rc133 cs1 u1 u2 u5 y0) else (Option.bind (rdI (cs1.2.2.1 23) 121 y0) fun v_67 => if v_67 = 5 then (Option.bind (rdI (cs1.2.2.1 27) 121 y0) fun v_69 => if v_69 = (-1) then (m_selectOf_b246 F T rc133 cs1 u1 u2 u5 y0 1 u6 (cs1.1 18)) else (m_selectOf_b246 F T rc133 cs1 u1 u2 u5 y0 3 u6 (cs1.1 18))) else (m_selectOf_b281 F T rc133 cs1 u1 u2 u5 y0))
def m_selectOf_b183 (F : Nat) (T : TG_queryOf) (rc133 : RS → Int32 → Int32 → Int32 → Option (RS × Int32)) (cs1 : RS) (u1 : Int32) (u2 : Int32) (u5 : Int32) : Option (RS × Int32) := if (cs1.1 21) = 0 then (m_selectOf_b204 F T rc133 cs1 u1 u2 u5 (cs1.1 18) 0) else (Option.bind (m_expr F 300 cs1 ) fun z_72 => m_selectOf_b204 F T rc133 z_72.1 u1 u2 u5 (cs1.1 18) z_72.2)
def m_selectOf_L133 (F : Nat) (T : TG_queryOf) : Nat → RS → Int32 → Int32 → Int32 → Option (RS × Int32)
  | 0, _, _, _, _ => none
  | lf_133 + 1, cs1, u1, u2, u4 => if u4 = 0 then (m_selectOf_b356 F T cs1 u1 u2) else (if (cs1.1 21) = 0 then (m_selectOf_b356 F T cs1 u1 u2) else (Option.bind (rdI (cs1.2.2.1 36) 60 u1) fun v_75 => if v_75 = 8 then (Option.bind (m_begins F cs1 0) fun v_77 => if v_77 = 0 then (m_selectOf_b183 F T (m_selectOf_L133 F T lf_133) cs1 u1 u2 v_75) else (Option.bind (rdI (cs1.2.2.1 15) 2001 (cs1.1 18)) fun v_79 => Option.bind (m_tell F cs1 7 v_79) fun cs_80 => m_selectOf_b183 F T (m_selectOf_L133 F T lf_133) cs_80 u1 u2 v_75)) else (m_selectOf_b183 F T (m_selectOf_L133 F T lf_133) cs1 u1 u2 v_75)))
def m_selectOf_b116 (F : Nat) (T : TG_queryOf) (cs1 : RS) (u1 : Int32) (u2 : Int32) (y0 : Int32) (y1 : Int32) : Option (RS × Int32) := Option.bind (wrI cs1 35 60 y1 y0) fun cs_81 => Option.bind (m_takeWord F cs_81 4) fun z_82 => m_selectOf_L133 F T F (setF z_82.1 72 1) u1 u2 1
def b_selectOf (F : Nat) (T : TG_queryOf) (cs : RS) : Option (RS × Int32) := Option.bind (m_needWord F cs 3) fun cs_83 => Option.bind (wrI (setF (setF cs_83 34 ((cs_83.1 34) + 1)) 71 (cs_83.1 34)) 36 60 (cs_83.1 34) 0) fun cs_84 => Option.bind (wrI cs_84 37 60 (cs_83.1 34) 0) fun cs_85 => Option.bind (wrI cs_85 38 60 (cs_83.1 34) (-1)) fun cs_86 => Option.bind (wrI cs_86 39 60 (cs_83.1 34) 0) fun cs_87 => Option.bind (wrI cs_87 40 60 (cs_83.1 34) (-1)) fun cs_88 => Option.bind (wrI cs_88 41 60 (cs_83.1 34) (-1)) fun cs_89 => Option.bind (wrI cs_89 42 60 (cs_83.1 34) 0) fun cs_90 => Option.bind (wrI cs_90 43 60 (cs_83.1 34) (-1)) fun cs_91 => Option.bind (m_isWord F cs_91 4) fun v_92 => if v_92 = 0 then (m_selectOf_b116 F T cs_91 (cs_83.1 34) ((setF cs_83 34 ((cs_83.1 34) + 1)).1 71) (-1) (cs_83.1 34)) else (Option.bind (rdI (cs_91.2.2.1 15) 2001 (cs_91.1 18)) fun v_94 => m_selectOf_b116 F T cs_91 (cs_83.1 34) ((setF cs_83 34 ((cs_83.1 34) + 1)).1 71) v_94 (cs_83.1 34))
theorem dX12_source_0 : decode cX12_source 0 = .ok (.aload_n 0, 1) := by decide +kernel
theorem dX12_source_1 : decode cX12_source 1 = .ok (.getfield 292, 3) := by decide +kernel
theorem dX12_source_4 : decode cX12_source 4 = .ok (.ifCond .ne 4, 3) := by decide +kernel
theorem dX12_source_7 : decode cX12_source 7 = .ok (.return_, 1) := by decide +kernel
theorem dX12_source_8 : decode cX12_source 8 = .ok (.iconst 3, 1) := by decide +kernel
theorem dX12_source_9 : decode cX12_source 9 = .ok (.iload_n 1, 1) := by decide +kernel
theorem dX12_source_10 : decode cX12_source 10 = .ok (.imul, 1) := by decide +kernel
theorem dX12_source_11 : decode cX12_source 11 = .ok (.aload_n 0, 1) := by decide +kernel
theorem dX12_source_12 : decode cX12_source 12 = .ok (.getfield 91, 3) := by decide +kernel
theorem dX12_source_15 : decode cX12_source 15 = .ok (.iload_n 1, 1) := by decide +kernel
theorem dX12_source_16 : decode cX12_source 16 = .ok (.iaload, 1) := by decide +kernel
theorem dX12_source_17 : decode cX12_source 17 = .ok (.iadd, 1) := by decide +kernel
theorem dX12_source_18 : decode cX12_source 18 = .ok (.istore 4, 2) := by decide +kernel
theorem dX12_source_20 : decode cX12_source 20 = .ok (.aload_n 0, 1) := by decide +kernel
theorem dX12_source_21 : decode cX12_source 21 = .ok (.bipush 40, 2) := by decide +kernel
theorem dX12_source_23 : decode cX12_source 23 = .ok (.invokevirtual 332, 3) := by decide +kernel
theorem dX12_source_26 : decode cX12_source 26 = .ok (.ifCond .eq 106, 3) := by decide +kernel
theorem dX12_source_29 : decode cX12_source 29 = .ok (.aload_n 0, 1) := by decide +kernel
theorem dX12_source_30 : decode cX12_source 30 = .ok (.aload_n 0, 1) := by decide +kernel
theorem dX12_source_31 : decode cX12_source 31 = .ok (.getfield 43, 3) := by decide +kernel
theorem dX12_source_34 : decode cX12_source 34 = .ok (.aload_n 0, 1) := by decide +kernel
theorem dX12_source_35 : decode cX12_source 35 = .ok (.getfield 302, 3) := by decide +kernel
theorem dX12_source_38 : decode cX12_source 38 = .ok (.iaload, 1) := by decide +kernel
theorem dX12_source_39 : decode cX12_source 39 = .ok (.invokevirtual 401, 3) := by decide +kernel
theorem dX12_source_42 : decode cX12_source 42 = .ok (.aload_n 0, 1) := by decide +kernel
theorem dX12_source_43 : decode cX12_source 43 = .ok (.dup, 1) := by decide +kernel
theorem dX12_source_44 : decode cX12_source 44 = .ok (.getfield 302, 3) := by decide +kernel
theorem dX12_source_47 : decode cX12_source 47 = .ok (.iconst 1, 1) := by decide +kernel
theorem dX12_source_48 : decode cX12_source 48 = .ok (.iadd, 1) := by decide +kernel
theorem dX12_source_49 : decode cX12_source 49 = .ok (.putfield 302, 3) := by decide +kernel
theorem dX12_source_52 : decode cX12_source 52 = .ok (.aload_n 0, 1) := by decide +kernel
theorem dX12_source_53 : decode cX12_source 53 = .ok (.getfield 292, 3) := by decide +kernel
theorem dX12_source_56 : decode cX12_source 56 = .ok (.ifCond .eq 10, 3) := by decide +kernel
theorem dX12_source_59 : decode cX12_source 59 = .ok (.aload_n 0, 1) := by decide +kernel
theorem dX12_source_60 : decode cX12_source 60 = .ok (.invokevirtual 500, 3) := by decide +kernel
theorem dX12_source_63 : decode cX12_source 63 = .ok (.goto 4, 3) := by decide +kernel
theorem dX12_source_66 : decode cX12_source 66 = .ok (.iconst 0, 1) := by decide +kernel
theorem dX12_source_67 : decode cX12_source 67 = .ok (.istore 5, 2) := by decide +kernel
theorem dX12_source_69 : decode cX12_source 69 = .ok (.aload_n 0, 1) := by decide +kernel
theorem dX12_source_70 : decode cX12_source 70 = .ok (.dup, 1) := by decide +kernel
theorem dX12_source_71 : decode cX12_source 71 = .ok (.getfield 347, 3) := by decide +kernel
theorem dX12_source_74 : decode cX12_source 74 = .ok (.iconst 1, 1) := by decide +kernel
theorem dX12_source_75 : decode cX12_source 75 = .ok (.isub, 1) := by decide +kernel
theorem dX12_source_76 : decode cX12_source 76 = .ok (.putfield 347, 3) := by decide +kernel
theorem dX12_source_79 : decode cX12_source 79 = .ok (.aload_n 0, 1) := by decide +kernel
theorem dX12_source_80 : decode cX12_source 80 = .ok (.getfield 43, 3) := by decide +kernel
theorem dX12_source_83 : decode cX12_source 83 = .ok (.aload_n 0, 1) := by decide +kernel
theorem dX12_source_84 : decode cX12_source 84 = .ok (.getfield 302, 3) := by decide +kernel
theorem dX12_source_87 : decode cX12_source 87 = .ok (.iaload, 1) := by decide +kernel
theorem dX12_source_88 : decode cX12_source 88 = .ok (.istore 6, 2) := by decide +kernel
theorem dX12_source_90 : decode cX12_source 90 = .ok (.aload_n 0, 1) := by decide +kernel
theorem dX12_source_91 : decode cX12_source 91 = .ok (.bipush 41, 2) := by decide +kernel
theorem dX12_source_93 : decode cX12_source 93 = .ok (.invokevirtual 414, 3) := by decide +kernel
theorem dX12_source_96 : decode cX12_source 96 = .ok (.aload_n 0, 1) := by decide +kernel
theorem dX12_source_97 : decode cX12_source 97 = .ok (.getfield 292, 3) := by decide +kernel
theorem dX12_source_100 : decode cX12_source 100 = .ok (.ifCond .eq 29, 3) := by decide +kernel
theorem dX12_source_103 : decode cX12_source 103 = .ok (.aload_n 0, 1) := by decide +kernel
theorem dX12_source_104 : decode cX12_source 104 = .ok (.getfield 127, 3) := by decide +kernel
theorem dX12_source_107 : decode cX12_source 107 = .ok (.iload 4, 2) := by decide +kernel
theorem dX12_source_109 : decode cX12_source 109 = .ok (.iconst (-1), 1) := by decide +kernel
theorem dX12_source_110 : decode cX12_source 110 = .ok (.iastore, 1) := by decide +kernel
theorem dX12_source_111 : decode cX12_source 111 = .ok (.aload_n 0, 1) := by decide +kernel
theorem dX12_source_112 : decode cX12_source 112 = .ok (.getfield 139, 3) := by decide +kernel
theorem dX12_source_115 : decode cX12_source 115 = .ok (.iload 4, 2) := by decide +kernel
theorem dX12_source_117 : decode cX12_source 117 = .ok (.iload 5, 2) := by decide +kernel
theorem dX12_source_119 : decode cX12_source 119 = .ok (.iastore, 1) := by decide +kernel
theorem dX12_source_120 : decode cX12_source 120 = .ok (.aload_n 0, 1) := by decide +kernel
theorem dX12_source_121 : decode cX12_source 121 = .ok (.getfield 142, 3) := by decide +kernel
theorem dX12_source_124 : decode cX12_source 124 = .ok (.iload 4, 2) := by decide +kernel
theorem dX12_source_126 : decode cX12_source 126 = .ok (.iload 6, 2) := by decide +kernel
theorem dX12_source_128 : decode cX12_source 128 = .ok (.iastore, 1) := by decide +kernel
theorem dX12_source_129 : decode cX12_source 129 = .ok (.goto 171, 3) := by decide +kernel
theorem dX12_source_132 : decode cX12_source 132 = .ok (.aload_n 0, 1) := by decide +kernel
theorem dX12_source_133 : decode cX12_source 133 = .ok (.invokevirtual 343, 3) := by decide +kernel
theorem dX12_source_136 : decode cX12_source 136 = .ok (.ifCond .eq 160, 3) := by decide +kernel
theorem dX12_source_139 : decode cX12_source 139 = .ok (.aload_n 0, 1) := by decide +kernel
theorem dX12_source_140 : decode cX12_source 140 = .ok (.getfield 46, 3) := by decide +kernel
theorem dX12_source_143 : decode cX12_source 143 = .ok (.aload_n 0, 1) := by decide +kernel
theorem dX12_source_144 : decode cX12_source 144 = .ok (.getfield 302, 3) := by decide +kernel
theorem dX12_source_147 : decode cX12_source 147 = .ok (.iaload, 1) := by decide +kernel
theorem dX12_source_148 : decode cX12_source 148 = .ok (.iconst 2, 1) := by decide +kernel
theorem dX12_source_149 : decode cX12_source 149 = .ok (.if_icmp .ne 147, 3) := by decide +kernel
theorem dX12_source_152 : decode cX12_source 152 = .ok (.aload_n 0, 1) := by decide +kernel
theorem dX12_source_153 : decode cX12_source 153 = .ok (.getfield 13, 3) := by decide +kernel
theorem dX12_source_156 : decode cX12_source 156 = .ok (.aload_n 0, 1) := by decide +kernel
theorem dX12_source_157 : decode cX12_source 157 = .ok (.getfield 43, 3) := by decide +kernel
theorem dX12_source_160 : decode cX12_source 160 = .ok (.aload_n 0, 1) := by decide +kernel
theorem dX12_source_161 : decode cX12_source 161 = .ok (.getfield 302, 3) := by decide +kernel
theorem dX12_source_164 : decode cX12_source 164 = .ok (.iaload, 1) := by decide +kernel
theorem dX12_source_165 : decode cX12_source 165 = .ok (.baload, 1) := by decide +kernel
theorem dX12_source_166 : decode cX12_source 166 = .ok (.bipush 115, 2) := by decide +kernel
theorem dX12_source_168 : decode cX12_source 168 = .ok (.if_icmp .ne 128, 3) := by decide +kernel
theorem dX12_source_171 : decode cX12_source 171 = .ok (.aload_n 0, 1) := by decide +kernel
theorem dX12_source_172 : decode cX12_source 172 = .ok (.getfield 13, 3) := by decide +kernel
theorem dX12_source_175 : decode cX12_source 175 = .ok (.aload_n 0, 1) := by decide +kernel
theorem dX12_source_176 : decode cX12_source 176 = .ok (.getfield 43, 3) := by decide +kernel
theorem dX12_source_179 : decode cX12_source 179 = .ok (.aload_n 0, 1) := by decide +kernel
theorem dX12_source_180 : decode cX12_source 180 = .ok (.getfield 302, 3) := by decide +kernel
theorem dX12_source_183 : decode cX12_source 183 = .ok (.iaload, 1) := by decide +kernel
theorem dX12_source_184 : decode cX12_source 184 = .ok (.iconst 1, 1) := by decide +kernel
theorem dX12_source_185 : decode cX12_source 185 = .ok (.iadd, 1) := by decide +kernel
theorem dX12_source_186 : decode cX12_source 186 = .ok (.baload, 1) := by decide +kernel
theorem dX12_source_187 : decode cX12_source 187 = .ok (.invokestatic 285, 3) := by decide +kernel
theorem dX12_source_190 : decode cX12_source 190 = .ok (.ifCond .eq 106, 3) := by decide +kernel
theorem dX12_source_193 : decode cX12_source 193 = .ok (.aload_n 0, 1) := by decide +kernel
theorem dX12_source_194 : decode cX12_source 194 = .ok (.dup, 1) := by decide +kernel
theorem dX12_source_195 : decode cX12_source 195 = .ok (.getfield 503, 3) := by decide +kernel
theorem dX12_source_198 : decode cX12_source 198 = .ok (.iconst 1, 1) := by decide +kernel
theorem dX12_source_199 : decode cX12_source 199 = .ok (.iadd, 1) := by decide +kernel
theorem dX12_source_200 : decode cX12_source 200 = .ok (.putfield 503, 3) := by decide +kernel
theorem dX12_source_203 : decode cX12_source 203 = .ok (.aload_n 0, 1) := by decide +kernel
theorem dX12_source_204 : decode cX12_source 204 = .ok (.getfield 503, 3) := by decide +kernel
theorem dX12_source_207 : decode cX12_source 207 = .ok (.iconst 4, 1) := by decide +kernel
theorem dX12_source_208 : decode cX12_source 208 = .ok (.if_icmp .ne 18, 3) := by decide +kernel
theorem dX12_source_211 : decode cX12_source 211 = .ok (.aload_n 0, 1) := by decide +kernel
theorem dX12_source_212 : decode cX12_source 212 = .ok (.bipush 7, 2) := by decide +kernel
theorem dX12_source_214 : decode cX12_source 214 = .ok (.aload_n 0, 1) := by decide +kernel
theorem dX12_source_215 : decode cX12_source 215 = .ok (.getfield 43, 3) := by decide +kernel
theorem dX12_source_218 : decode cX12_source 218 = .ok (.aload_n 0, 1) := by decide +kernel
theorem dX12_source_219 : decode cX12_source 219 = .ok (.getfield 302, 3) := by decide +kernel
theorem dX12_source_222 : decode cX12_source 222 = .ok (.iaload, 1) := by decide +kernel
theorem dX12_source_223 : decode cX12_source 223 = .ok (.invokevirtual 305, 3) := by decide +kernel
theorem dX12_source_226 : decode cX12_source 226 = .ok (.aload_n 0, 1) := by decide +kernel
theorem dX12_source_227 : decode cX12_source 227 = .ok (.getfield 292, 3) := by decide +kernel
theorem dX12_source_230 : decode cX12_source 230 = .ok (.ifCond .eq 70, 3) := by decide +kernel
theorem dX12_source_233 : decode cX12_source 233 = .ok (.aload_n 0, 1) := by decide +kernel
theorem dX12_source_234 : decode cX12_source 234 = .ok (.getfield 127, 3) := by decide +kernel
theorem dX12_source_237 : decode cX12_source 237 = .ok (.iload 4, 2) := by decide +kernel
theorem dX12_source_239 : decode cX12_source 239 = .ok (.aload_n 0, 1) := by decide +kernel
theorem dX12_source_240 : decode cX12_source 240 = .ok (.getfield 13, 3) := by decide +kernel
theorem dX12_source_243 : decode cX12_source 243 = .ok (.aload_n 0, 1) := by decide +kernel
theorem dX12_source_244 : decode cX12_source 244 = .ok (.getfield 43, 3) := by decide +kernel
theorem dX12_source_247 : decode cX12_source 247 = .ok (.aload_n 0, 1) := by decide +kernel
theorem dX12_source_248 : decode cX12_source 248 = .ok (.getfield 302, 3) := by decide +kernel
theorem dX12_source_251 : decode cX12_source 251 = .ok (.iaload, 1) := by decide +kernel
theorem dX12_source_252 : decode cX12_source 252 = .ok (.iconst 1, 1) := by decide +kernel
theorem dX12_source_253 : decode cX12_source 253 = .ok (.iadd, 1) := by decide +kernel
theorem dX12_source_254 : decode cX12_source 254 = .ok (.baload, 1) := by decide +kernel
theorem dX12_source_255 : decode cX12_source 255 = .ok (.bipush 48, 2) := by decide +kernel
theorem dX12_source_257 : decode cX12_source 257 = .ok (.isub, 1) := by decide +kernel
theorem dX12_source_258 : decode cX12_source 258 = .ok (.iastore, 1) := by decide +kernel
theorem dX12_source_259 : decode cX12_source 259 = .ok (.aload_n 0, 1) := by decide +kernel
theorem dX12_source_260 : decode cX12_source 260 = .ok (.getfield 130, 3) := by decide +kernel
theorem dX12_source_263 : decode cX12_source 263 = .ok (.iload 4, 2) := by decide +kernel
theorem dX12_source_265 : decode cX12_source 265 = .ok (.aload_n 0, 1) := by decide +kernel
theorem dX12_source_266 : decode cX12_source 266 = .ok (.getfield 43, 3) := by decide +kernel
theorem dX12_source_269 : decode cX12_source 269 = .ok (.aload_n 0, 1) := by decide +kernel
theorem dX12_source_270 : decode cX12_source 270 = .ok (.getfield 302, 3) := by decide +kernel
theorem dX12_source_273 : decode cX12_source 273 = .ok (.iaload, 1) := by decide +kernel
theorem dX12_source_274 : decode cX12_source 274 = .ok (.iastore, 1) := by decide +kernel
theorem dX12_source_275 : decode cX12_source 275 = .ok (.aload_n 0, 1) := by decide +kernel
theorem dX12_source_276 : decode cX12_source 276 = .ok (.getfield 139, 3) := by decide +kernel
theorem dX12_source_279 : decode cX12_source 279 = .ok (.iload 4, 2) := by decide +kernel
theorem dX12_source_281 : decode cX12_source 281 = .ok (.iconst (-1), 1) := by decide +kernel
theorem dX12_source_282 : decode cX12_source 282 = .ok (.iastore, 1) := by decide +kernel
theorem dX12_source_283 : decode cX12_source 283 = .ok (.aload_n 0, 1) := by decide +kernel
theorem dX12_source_284 : decode cX12_source 284 = .ok (.dup, 1) := by decide +kernel
theorem dX12_source_285 : decode cX12_source 285 = .ok (.getfield 302, 3) := by decide +kernel
theorem dX12_source_288 : decode cX12_source 288 = .ok (.iconst 1, 1) := by decide +kernel
theorem dX12_source_289 : decode cX12_source 289 = .ok (.iadd, 1) := by decide +kernel
theorem dX12_source_290 : decode cX12_source 290 = .ok (.putfield 302, 3) := by decide +kernel
theorem dX12_source_293 : decode cX12_source 293 = .ok (.goto 7, 3) := by decide +kernel
theorem dX12_source_296 : decode cX12_source 296 = .ok (.aload_n 0, 1) := by decide +kernel
theorem dX12_source_297 : decode cX12_source 297 = .ok (.invokevirtual 329, 3) := by decide +kernel
theorem dX12_source_300 : decode cX12_source 300 = .ok (.aload_n 0, 1) := by decide +kernel
theorem dX12_source_301 : decode cX12_source 301 = .ok (.ldc_w 482, 3) := by decide +kernel
theorem dX12_source_304 : decode cX12_source 304 = .ok (.invokevirtual 408, 3) := by decide +kernel
theorem dX12_source_307 : decode cX12_source 307 = .ok (.aload_n 0, 1) := by decide +kernel
theorem dX12_source_308 : decode cX12_source 308 = .ok (.getfield 292, 3) := by decide +kernel
theorem dX12_source_311 : decode cX12_source 311 = .ok (.ifCond .eq 10, 3) := by decide +kernel
theorem dX12_source_314 : decode cX12_source 314 = .ok (.aload_n 0, 1) := by decide +kernel
theorem dX12_source_315 : decode cX12_source 315 = .ok (.invokevirtual 450, 3) := by decide +kernel
theorem dX12_source_318 : decode cX12_source 318 = .ok (.goto 4, 3) := by decide +kernel
theorem dX12_source_321 : decode cX12_source 321 = .ok (.iconst 0, 1) := by decide +kernel
theorem dX12_source_322 : decode cX12_source 322 = .ok (.istore 5, 2) := by decide +kernel
theorem dX12_source_324 : decode cX12_source 324 = .ok (.aload_n 0, 1) := by decide +kernel
theorem dX12_source_325 : decode cX12_source 325 = .ok (.getfield 292, 3) := by decide +kernel
theorem dX12_source_328 : decode cX12_source 328 = .ok (.ifCond .ne 4, 3) := by decide +kernel
theorem dX12_source_331 : decode cX12_source 331 = .ok (.return_, 1) := by decide +kernel
theorem dX12_source_332 : decode cX12_source 332 = .ok (.aload_n 0, 1) := by decide +kernel
theorem dX12_source_333 : decode cX12_source 333 = .ok (.getfield 145, 3) := by decide +kernel
theorem dX12_source_336 : decode cX12_source 336 = .ok (.iload 4, 2) := by decide +kernel
theorem dX12_source_338 : decode cX12_source 338 = .ok (.iload 5, 2) := by decide +kernel
theorem dX12_source_340 : decode cX12_source 340 = .ok (.iastore, 1) := by decide +kernel
theorem dX12_source_341 : decode cX12_source 341 = .ok (.aload_n 0, 1) := by decide +kernel
theorem dX12_source_342 : decode cX12_source 342 = .ok (.getfield 151, 3) := by decide +kernel
theorem dX12_source_345 : decode cX12_source 345 = .ok (.iload 4, 2) := by decide +kernel
theorem dX12_source_347 : decode cX12_source 347 = .ok (.iload_n 3, 1) := by decide +kernel
theorem dX12_source_348 : decode cX12_source 348 = .ok (.iastore, 1) := by decide +kernel
theorem dX12_source_349 : decode cX12_source 349 = .ok (.aload_n 0, 1) := by decide +kernel
theorem dX12_source_350 : decode cX12_source 350 = .ok (.getfield 154, 3) := by decide +kernel
theorem dX12_source_353 : decode cX12_source 353 = .ok (.iload 4, 2) := by decide +kernel
theorem dX12_source_355 : decode cX12_source 355 = .ok (.iconst (-1), 1) := by decide +kernel
theorem dX12_source_356 : decode cX12_source 356 = .ok (.iastore, 1) := by decide +kernel
theorem dX12_source_357 : decode cX12_source 357 = .ok (.aload_n 0, 1) := by decide +kernel
theorem dX12_source_358 : decode cX12_source 358 = .ok (.getfield 133, 3) := by decide +kernel
theorem dX12_source_361 : decode cX12_source 361 = .ok (.iload 4, 2) := by decide +kernel
theorem dX12_source_363 : decode cX12_source 363 = .ok (.iconst 0, 1) := by decide +kernel
theorem dX12_source_364 : decode cX12_source 364 = .ok (.bastore, 1) := by decide +kernel
theorem dX12_source_365 : decode cX12_source 365 = .ok (.aload_n 0, 1) := by decide +kernel
theorem dX12_source_366 : decode cX12_source 366 = .ok (.getfield 148, 3) := by decide +kernel
theorem dX12_source_369 : decode cX12_source 369 = .ok (.iload 4, 2) := by decide +kernel
theorem dX12_source_371 : decode cX12_source 371 = .ok (.iload_n 2, 1) := by decide +kernel
theorem dX12_source_372 : decode cX12_source 372 = .ok (.bastore, 1) := by decide +kernel
theorem dX12_source_373 : decode cX12_source 373 = .ok (.aload_n 0, 1) := by decide +kernel
theorem dX12_source_374 : decode cX12_source 374 = .ok (.getfield 127, 3) := by decide +kernel
theorem dX12_source_377 : decode cX12_source 377 = .ok (.iload 4, 2) := by decide +kernel
theorem dX12_source_379 : decode cX12_source 379 = .ok (.iaload, 1) := by decide +kernel
theorem dX12_source_380 : decode cX12_source 380 = .ok (.iconst (-1), 1) := by decide +kernel
theorem dX12_source_381 : decode cX12_source 381 = .ok (.if_icmp .eq 65, 3) := by decide +kernel
theorem dX12_source_384 : decode cX12_source 384 = .ok (.aload_n 0, 1) := by decide +kernel
theorem dX12_source_385 : decode cX12_source 385 = .ok (.ldc_w 506, 3) := by decide +kernel
theorem dX12_source_388 : decode cX12_source 388 = .ok (.invokevirtual 326, 3) := by decide +kernel
theorem dX12_source_391 : decode cX12_source 391 = .ok (.ifCond .eq 55, 3) := by decide +kernel
theorem dX12_source_394 : decode cX12_source 394 = .ok (.aload_n 0, 1) := by decide +kernel
theorem dX12_source_395 : decode cX12_source 395 = .ok (.getfield 40, 3) := by decide +kernel
theorem dX12_source_398 : decode cX12_source 398 = .ok (.aload_n 0, 1) := by decide +kernel
theorem dX12_source_399 : decode cX12_source 399 = .ok (.getfield 302, 3) := by decide +kernel
theorem dX12_source_402 : decode cX12_source 402 = .ok (.iaload, 1) := by decide +kernel
theorem dX12_source_403 : decode cX12_source 403 = .ok (.iconst 2, 1) := by decide +kernel
theorem dX12_source_404 : decode cX12_source 404 = .ok (.if_icmp .eq 8, 3) := by decide +kernel
theorem dX12_source_407 : decode cX12_source 407 = .ok (.aload_n 0, 1) := by decide +kernel
theorem dX12_source_408 : decode cX12_source 408 = .ok (.invokevirtual 329, 3) := by decide +kernel
theorem dX12_source_411 : decode cX12_source 411 = .ok (.return_, 1) := by decide +kernel
theorem dX12_source_412 : decode cX12_source 412 = .ok (.aload_n 0, 1) := by decide +kernel
theorem dX12_source_413 : decode cX12_source 413 = .ok (.getfield 133, 3) := by decide +kernel
theorem dX12_source_416 : decode cX12_source 416 = .ok (.iload 4, 2) := by decide +kernel
theorem dX12_source_418 : decode cX12_source 418 = .ok (.iconst 1, 1) := by decide +kernel
theorem dX12_source_419 : decode cX12_source 419 = .ok (.bastore, 1) := by decide +kernel
theorem dX12_source_420 : decode cX12_source 420 = .ok (.aload_n 0, 1) := by decide +kernel
theorem dX12_source_421 : decode cX12_source 421 = .ok (.getfield 136, 3) := by decide +kernel
theorem dX12_source_424 : decode cX12_source 424 = .ok (.iload 4, 2) := by decide +kernel
theorem dX12_source_426 : decode cX12_source 426 = .ok (.aload_n 0, 1) := by decide +kernel
theorem dX12_source_427 : decode cX12_source 427 = .ok (.getfield 49, 3) := by decide +kernel
theorem dX12_source_430 : decode cX12_source 430 = .ok (.aload_n 0, 1) := by decide +kernel
theorem dX12_source_431 : decode cX12_source 431 = .ok (.getfield 302, 3) := by decide +kernel
theorem dX12_source_434 : decode cX12_source 434 = .ok (.laload, 1) := by decide +kernel
theorem dX12_source_435 : decode cX12_source 435 = .ok (.lastore, 1) := by decide +kernel
theorem dX12_source_436 : decode cX12_source 436 = .ok (.aload_n 0, 1) := by decide +kernel
theorem dX12_source_437 : decode cX12_source 437 = .ok (.dup, 1) := by decide +kernel
theorem dX12_source_438 : decode cX12_source 438 = .ok (.getfield 302, 3) := by decide +kernel
theorem dX12_source_441 : decode cX12_source 441 = .ok (.iconst 1, 1) := by decide +kernel
theorem dX12_source_442 : decode cX12_source 442 = .ok (.iadd, 1) := by decide +kernel
theorem dX12_source_443 : decode cX12_source 443 = .ok (.putfield 302, 3) := by decide +kernel
theorem dX12_source_446 : decode cX12_source 446 = .ok (.aload_n 0, 1) := by decide +kernel
theorem dX12_source_447 : decode cX12_source 447 = .ok (.getfield 91, 3) := by decide +kernel
theorem dX12_source_450 : decode cX12_source 450 = .ok (.iload_n 1, 1) := by decide +kernel
theorem dX12_source_451 : decode cX12_source 451 = .ok (.dup2, 1) := by decide +kernel
theorem dX12_source_452 : decode cX12_source 452 = .ok (.iaload, 1) := by decide +kernel
theorem dX12_source_453 : decode cX12_source 453 = .ok (.iconst 1, 1) := by decide +kernel
theorem dX12_source_454 : decode cX12_source 454 = .ok (.iadd, 1) := by decide +kernel
theorem dX12_source_455 : decode cX12_source 455 = .ok (.iastore, 1) := by decide +kernel
theorem dX12_source_456 : decode cX12_source 456 = .ok (.return_, 1) := by decide +kernel
def m_source_b446 (F : Nat) (T : TG_queryOf) (cs1 : RS) (u1 : Int32) : Option RS := Option.bind (rdI (cs1.2.2.1 37) 60 u1) fun v_1 => Option.bind (wrI cs1 37 60 u1 (v_1 + 1)) fun cs_2 => some cs_2
def m_source_b322 (F : Nat) (T : TG_queryOf) (cs1 : RS) (u1 : Int32) (u2 : Int32) (u3 : Int32) (u4 : Int32) (y0 : Int32) : Option RS := if (cs1.1 21) = 0 then (some cs1) else (Option.bind (wrI cs1 55 180 u4 y0) fun cs_4 => Option.bind (wrI cs_4 57 180 u4 u3) fun cs_5 => Option.bind (wrI cs_5 58 180 u4 (-1)) fun cs_6 => Option.bind (wrI cs_6 51 180 u4 (vp_nar .boolean 0)) fun cs_7 => Option.bind (wrI cs_7 56 180 u4 (vp_nar .boolean u2)) fun cs_8 => Option.bind (rdI (cs_8.2.2.1 49) 180 u4) fun v_9 => if v_9 = (-1) then (m_source_b446 F T cs_8 u1) else (Option.bind (m_takeWord F cs_8 27) fun z_11 => if z_11.2 = 0 then (m_source_b446 F T z_11.1 u1) else (Option.bind (rdI (z_11.1.2.2.1 14) 2001 (z_11.1.1 18)) fun v_13 => if v_13 = 2 then (Option.bind (wrI z_11.1 51 180 u4 (vp_nar .boolean 1)) fun cs_15 => Option.bind (rdL (cs_15.2.2.2 17) 2001 (cs_15.1 18)) fun v_16 => Option.bind (wrL cs_15 52 180 u4 v_16) fun cs_17 => m_source_b446 F T (setF cs_17 18 ((cs_17.1 18) + 1)) u1) else (Option.bind (m_wrong F z_11.1 ) fun cs_18 => some cs_18))))
def m_source_b300 (F : Nat) (T : TG_queryOf) (cs1 : RS) (u1 : Int32) (u2 : Int32) (u3 : Int32) (u4 : Int32) : Option RS := Option.bind (m_needWord F cs1 25) fun cs_19 => if (cs_19.1 21) = 0 then (m_source_b322 F T cs_19 u1 u2 u3 u4 0) else (Option.bind (m_name F cs_19 ) fun z_21 => m_source_b322 F T z_21.1 u1 u2 u3 u4 z_21.2)
def m_source_b129 (F : Nat) (T : TG_queryOf) (cs1 : RS) (u1 : Int32) (u2 : Int32) (u3 : Int32) (u4 : Int32) : Option RS := m_source_b300 F T cs1 u1 u2 u3 u4
def m_source_b67 (F : Nat) (T : TG_queryOf) (cs1 : RS) (u1 : Int32) (u2 : Int32) (u3 : Int32) (u4 : Int32) (y0 : Int32) : Option RS := Option.bind (rdI ((setF cs1 70 ((cs1.1 70) - 1)).2.2.1 15) 2001 ((setF cs1 70 ((cs1.1 70) - 1)).1 18)) fun v_22 => Option.bind (m_needSign F (setF cs1 70 ((cs1.1 70) - 1)) 41) fun cs_23 => if (cs_23.1 21) = 0 then (m_source_b129 F T cs_23 u1 u2 u3 u4) else (Option.bind (wrI cs_23 49 180 u4 (-1)) fun cs_25 => Option.bind (wrI cs_25 53 180 u4 y0) fun cs_26 => Option.bind (wrI cs_26 54 180 u4 v_22) fun cs_27 => m_source_b129 F T cs_27 u1 u2 u3 u4)
def m_source_b226 (F : Nat) (T : TG_queryOf) (cs1 : RS) (u1 : Int32) (u2 : Int32) (u3 : Int32) (u4 : Int32) : Option RS := if (cs1.1 21) = 0 then (m_source_b300 F T cs1 u1 u2 u3 u4) else (Option.bind (rdI (cs1.2.2.1 15) 2001 (cs1.1 18)) fun v_29 => Option.bind (rdI (cs1.2.2.1 2) 2000 (v_29 + 1)) fun v_30 => Option.bind (wrI cs1 49 180 u4 (v_30 - 48)) fun cs_31 => Option.bind (rdI (cs_31.2.2.1 15) 2001 (cs_31.1 18)) fun v_32 => Option.bind (wrI cs_31 50 180 u4 v_32) fun cs_33 => Option.bind (wrI cs_33 53 180 u4 (-1)) fun cs_34 => m_source_b300 F T (setF cs_34 18 ((cs_34.1 18) + 1)) u1 u2 u3 u4)
def m_source_b296 (F : Nat) (T : TG_queryOf) (cs1 : RS) (u1 : Int32) (u2 : Int32) (u3 : Int32) (u4 : Int32) : Option RS := Option.bind (m_wrong F cs1 ) fun cs_35 => m_source_b300 F T cs_35 u1 u2 u3 u4
def b_source (F : Nat) (T : TG_queryOf) (cs : RS) (x1 : Int32) (x2 : Int32) (x3 : Int32) : Option RS := if (cs.1 21) = 0 then (some cs) else (Option.bind (rdI (cs.2.2.1 37) 60 x1) fun v_37 => Option.bind (m_isSign F cs 40) fun v_38 => if v_38 = 0 then (Option.bind (m_isName F cs ) fun v_40 => if v_40 = 0 then (m_source_b296 F T cs x1 x2 x3 ((3 * x1) + v_37)) else (Option.bind (rdI (cs.2.2.1 16) 2001 (cs.1 18)) fun v_42 => if v_42 = 2 then (Option.bind (rdI (cs.2.2.1 15) 2001 (cs.1 18)) fun v_44 => Option.bind (rdI (cs.2.2.1 2) 2000 v_44) fun v_45 => if v_45 = 115 then (Option.bind (rdI (cs.2.2.1 15) 2001 (cs.1 18)) fun v_47 => Option.bind (rdI (cs.2.2.1 2) 2000 (v_47 + 1)) fun v_48 => Option.bind (m_isDigit F cs v_48) fun v_49 => if v_49 = 0 then (m_source_b296 F T cs x1 x2 x3 ((3 * x1) + v_37)) else (if ((setF cs 69 ((cs.1 69) + 1)).1 69) = 4 then (Option.bind (rdI ((setF cs 69 ((cs.1 69) + 1)).2.2.1 15) 2001 ((setF cs 69 ((cs.1 69) + 1)).1 18)) fun v_52 => Option.bind (m_tell F (setF cs 69 ((cs.1 69) + 1)) 7 v_52) fun cs_53 => m_source_b226 F T cs_53 x1 x2 x3 ((3 * x1) + v_37)) else (m_source_b226 F T (setF cs 69 ((cs.1 69) + 1)) x1 x2 x3 ((3 * x1) + v_37)))) else (m_source_b296 F T cs x1 x2 x3 ((3 * x1) + v_37))) else (m_source_b296 F T cs x1 x2 x3 ((3 * x1) + v_37)))) else (Option.bind (rdI (cs.2.2.1 15) 2001 (cs.1 18)) fun v_54 => Option.bind (m_deeper F cs v_54) fun cs_55 => if ((setF cs_55 18 ((cs_55.1 18) + 1)).1 21) = 0 then (m_source_b67 F T (setF cs_55 18 ((cs_55.1 18) + 1)) x1 x2 x3 ((3 * x1) + v_37) 0) else (Option.bind (T.1 (setF cs_55 18 ((cs_55.1 18) + 1)) ) fun z_57 => m_source_b67 F T z_57.1 x1 x2 x3 ((3 * x1) + v_37) z_57.2)))
def tab_queryOf (F : Nat) : Nat → TG_queryOf
  | 0 => (fun _ => none, fun _ => none, fun _ _ _ _ => none)
  | n + 1 => (b_queryOf F (tab_queryOf F n), b_selectOf F (tab_queryOf F n), b_source F (tab_queryOf F n))
theorem cw_queryOf {R : Room} {s : State} {args : Array Value} {y0 : MethodName} {c0 : ByteArray} {n0 : Nat} {r0 : Option FieldType} (hts : ∀ w ∈ wsOf y0 c0 n0 r0, w.before args s = true) {fr : Nat} (h1 : fr + 1 ≤ R.frames) (h2 : 8 + (8 + 11) + 60 * fr ≤ R.locals) : CallW R s args RX12 RX12 500 yX12_queryOf cX12_queryOf 8 (some .int) (wsOf yX12_queryOf cX12_queryOf 8 (some .int)) ({ frames := fr, cells := 0, slots := 0, locals := 60 * fr } : Room) 0 0 0 := cwV 0 hts (gd_all (in_V kw_2255 kw_2257 kw_137 kw_191 kc_X12_queryOf)) rfl rfl rfl (by decide +kernel) ⟨h1, h2⟩
theorem cw_selectOf {R : Room} {s : State} {args : Array Value} {y0 : MethodName} {c0 : ByteArray} {n0 : Nat} {r0 : Option FieldType} (hts : ∀ w ∈ wsOf y0 c0 n0 r0, w.before args s = true) {fr : Nat} (h1 : fr + 1 ≤ R.frames) (h2 : 8 + (9 + 11) + 60 * fr ≤ R.locals) : CallW R s args RX12 RX12 456 yX12_selectOf cX12_selectOf 9 (some .int) (wsOf yX12_selectOf cX12_selectOf 9 (some .int)) ({ frames := fr, cells := 0, slots := 0, locals := 60 * fr } : Room) 0 0 0 := cwV 0 hts (gd_all (in_V kw_2259 kw_2261 kw_138 kw_191 kc_X12_selectOf)) rfl rfl rfl (by decide +kernel) ⟨h1, h2⟩
theorem cw_source {R : Room} {s : State} {args : Array Value} {y0 : MethodName} {c0 : ByteArray} {n0 : Nat} {r0 : Option FieldType} (hts : ∀ w ∈ wsOf y0 c0 n0 r0, w.before args s = true) {fr : Nat} (h1 : fr + 1 ≤ R.frames) (h2 : 8 + (7 + 11) + 60 * fr ≤ R.locals) : CallW R s args RX12 RX12 486 yX12_source cX12_source 7 none (wsOf yX12_source cX12_source 7 none) ({ frames := fr, cells := 0, slots := 0, locals := 60 * fr } : Room) 0 0 3 := cwV 3 hts (gd_all (in_V kw_2375 kw_2377 kw_161 kw_191 kc_X12_source)) rfl rfl rfl (by decide +kernel) ⟨h1, h2⟩
set_option maxHeartbeats 4000000 in
set_option maxRecDepth 100000 in
theorem sb_queryOf (l : Launch) (dC : Nat → ClassId) (dI : Nat → Nat → Nat) (cB cI cJ cZ : ClassId) (h0 : Nat) (a : Nat → Nat) (K V : Nat → Nat) (fz : Value) (F : Nat) (n : Nat) (T : TG_queryOf) (hT_queryOf : ∀ (cs : RS) (cs9 : RS) (r9 : Int32), T.1 cs = some (cs9, r9) → okI l dC dI cB cI cJ cZ h0 a K V fz yX12_queryOf (wsOf yX12_queryOf cX12_queryOf 8 (some .int)) (n + 311) [.ref h0] cs cs9 r9) (hT_selectOf : ∀ (cs : RS) (cs9 : RS) (r9 : Int32), T.2.1 cs = some (cs9, r9) → okI l dC dI cB cI cJ cZ h0 a K V fz yX12_selectOf (wsOf yX12_selectOf cX12_selectOf 9 (some .int)) (n + 311) [.ref h0] cs cs9 r9) (hT_source : ∀ (cs : RS) (x1 : Int32) (x2 : Int32) (x3 : Int32) (cs9 : RS), T.2.2 cs x1 x2 x3 = some cs9 → okV l dC dI cB cI cJ cZ h0 a K V fz yX12_source (wsOf yX12_source cX12_source 7 none) (n + 311) [.ref h0, .int x1, .int x2, .int x3] cs cs9) (cs : RS) (cs9 : RS) (r9 : Int32) (hf : b_queryOf F T cs = some (cs9, r9)) : okI l dC dI cB cI cJ cZ h0 a K V fz yX12_queryOf (wsOf yX12_queryOf cX12_queryOf 8 (some .int)) (n + 1 + 311) [.ref h0] cs cs9 r9 := by
  intro sz
  refine Met.ofW (cc := cX12_queryOf) (maxL := 8) (ret := (some .int)) (by decide) rfl ?_
  intro p e s m args below meth c s₁ B hml hv
  obtain ⟨rfl, hsz, hP, hK, hD0, hZ⟩ := hv
  have hx := B.exec
  have hb := B.bytes
  have hr := B.returns
  have hts := atoms_spec (ws := (wsOf yX12_queryOf cX12_queryOf 8 (some .int))) B.pre
  have hown : s.vm.findClass RX12 = some m.cls := findClass_of_methodNamed B.named
  have hlocks := B.notSynchronized
  subst hsz
  have hD := hD0.self (sz := s.heap.size)
  generalize hAe : va_A (mW cB cI cJ cZ h0 a cs) s.heap.size = A at hD hZ ⊢
  have hA : ∀ q : Nat, s.heap.size ≤ q → A q := fun q h => by rw [← hAe]; exact Or.inr h
  have hS : va_S A s.heap s.heap [] := va_S.rf
  have hl := lv_entry ([.ref h0]) (n := 8) (Nat.le_of_ble_eq_true rfl)
  rw [lg_entry_eq]
  generalize (lg_sl ([.ref h0]) ++ List.replicate (8 - (lg_sl ([.ref h0])).length) Slot.unset).toArray = ls at hl ⊢
  have hl : lv_has ls 8 [(0, .ref h0)] := hl
  have B_456 : ∀ (cs1 : RS) (u1 : Int32), m_queryOf_b456 F T cs1 u1 = some (cs9, r9) → ∀ (H : Heap) (locs : List Loc) (ls : Array Slot), va_P (dC, dI) vwCl (mW cB cI cJ cZ h0 a cs1) H → va_D A (mW cB cI cJ cZ h0 a cs1) → va_S A s.heap H locs → lv_has ls 8 [(1, .int u1)] → W p l e (headSpec (wsOf yX12_queryOf cX12_queryOf 8 (some .int)) ({ frames := n + 1 + 311, cells := 0, slots := 0, locals := 60 * (n + 1 + 311) } : Room)).room s m ([.ref h0] : List Value).toArray below meth c H locs 0 0 (MQ below (va_Qi (fun (x : Int32) (_ : Unit) => x = r9) (fun _ t_ => va_P (dC, dI) vwCl (mW cB cI cJ cZ h0 a cs9) t_.heap ∧ va_D A (mW cB cI cJ cZ h0 a cs9)) A) ([.ref h0] : List Value).toArray s 0 0 A) (F0 m 456 ls []) := by
    intro cs1 u1 h H locs ls hP hD hS hl
    unfold m_queryOf_b456 at h
    refine lv_iload_n hx hb dX12_queryOf_456 rfl (lv_at hl 0 rfl) ?_
    obtain ⟨e1, e2⟩ := Prod.mk.inj (Option.some.inj h)
    rw [e1] at hP hD
    exact W.iret (v := u1) hx hb hr (fun t_ ht hW => ⟨⟨u1, (), rfl, e2, by rw [ht]; exact hP, hD⟩, hS.F ht⟩) hS.2.2 dX12_queryOf_457
  have B_423 : ∀ (cs1 : RS) (u1 : Int32), m_queryOf_b423 F T cs1 u1 = some (cs9, r9) → ∀ (H : Heap) (locs : List Loc) (ls : Array Slot), va_P (dC, dI) vwCl (mW cB cI cJ cZ h0 a cs1) H → va_D A (mW cB cI cJ cZ h0 a cs1) → va_S A s.heap H locs → lv_has ls 8 [(0, .ref h0), (1, .int u1)] → W p l e (headSpec (wsOf yX12_queryOf cX12_queryOf 8 (some .int)) ({ frames := n + 1 + 311, cells := 0, slots := 0, locals := 60 * (n + 1 + 311) } : Room)).room s m ([.ref h0] : List Value).toArray below meth c H locs 0 0 (MQ below (va_Qi (fun (x : Int32) (_ : Unit) => x = r9) (fun _ t_ => va_P (dC, dI) vwCl (mW cB cI cJ cZ h0 a cs9) t_.heap ∧ va_D A (mW cB cI cJ cZ h0 a cs9)) A) ([.ref h0] : List Value).toArray s 0 0 A) (F0 m 423 ls []) := by
    intro cs1 u1 h H locs ls hP hD hS hl
    unfold m_queryOf_b423 at h
    refine lv_aload_n hx hb dX12_queryOf_423 rfl (lv_at hl 0 rfl) ?_
    refine fg_21 hx hb hts hown hK hP dX12_queryOf_424 ?_
    refine lv_if_eq (tgt := 456) hx hb dX12_queryOf_427 (by decide) (fun c_1 => ?_) (fun c_1 => ?_)
    · skip
      replace h := (if_pos c_1).symm.trans h
      exact B_456 cs1 u1 h _ _ _ hP hD hS (lv_sub hl [1] rfl)
    · skip
      replace h := (if_neg c_1).symm.trans h
      refine lv_aload_n hx hb dX12_queryOf_430 rfl (lv_at hl 0 rfl) ?_
      refine fg_68 hx hb hts hown hK hP dX12_queryOf_431 ?_
      refine lv_iload_n hx hb dX12_queryOf_434 rfl (lv_at hl 1 rfl) ?_
      refine lv_aload_n hx hb dX12_queryOf_435 rfl (lv_at hl 0 rfl) ?_
      refine fg_17 hx hb hts hown hK hP dX12_queryOf_436 ?_
      refine lv_aload_n hx hb dX12_queryOf_439 rfl (lv_at hl 0 rfl) ?_
      refine fg_18 hx hb hts hown hK hP dX12_queryOf_440 ?_
      obtain ⟨v_2, hv_2, h⟩ := ob h
      refine ag_17 hx hb hK hP hv_2 dX12_queryOf_443 ?_
      refine lv_l2i hx hb dX12_queryOf_444 rfl ?_
      obtain ⟨cs_3, hv_3, h⟩ := ob h
      refine ap_68 hx hb hK hP hD hS hv_3 dX12_queryOf_445 (fun H locs hP hD hS => ?_)
      refine lv_aload_n hx hb dX12_queryOf_446 rfl (lv_at hl 0 rfl) ?_
      refine lv_dup hx hb dX12_queryOf_447 rfl ?_
      refine fg_18 hx hb hts hown hK hP dX12_queryOf_448 ?_
      refine lv_iconst (v := 1) hx hb dX12_queryOf_451 (by decide) ?_
      refine lv_iadd hx hb dX12_queryOf_452 ?_
      refine fp_18 hx hb hts hown hK hP hD hS dX12_queryOf_453 (fun H locs hP hD hS => ?_)
      exact B_456 (setF cs_3 18 ((cs_3.1 18) + 1)) u1 h _ _ _ hP hD hS (lv_sub hl [1] rfl)
  have B_419 : ∀ (cs1 : RS) (u1 : Int32), m_queryOf_b419 F T cs1 u1 = some (cs9, r9) → ∀ (H : Heap) (locs : List Loc) (ls : Array Slot), va_P (dC, dI) vwCl (mW cB cI cJ cZ h0 a cs1) H → va_D A (mW cB cI cJ cZ h0 a cs1) → va_S A s.heap H locs → lv_has ls 8 [(0, .ref h0), (1, .int u1)] → W p l e (headSpec (wsOf yX12_queryOf cX12_queryOf 8 (some .int)) ({ frames := n + 1 + 311, cells := 0, slots := 0, locals := 60 * (n + 1 + 311) } : Room)).room s m ([.ref h0] : List Value).toArray below meth c H locs 0 0 (MQ below (va_Qi (fun (x : Int32) (_ : Unit) => x = r9) (fun _ t_ => va_P (dC, dI) vwCl (mW cB cI cJ cZ h0 a cs9) t_.heap ∧ va_D A (mW cB cI cJ cZ h0 a cs9)) A) ([.ref h0] : List Value).toArray s 0 0 A) (F0 m 419 ls []) := by
    intro cs1 u1 h H locs ls hP hD hS hl
    unfold m_queryOf_b419 at h
    refine lv_aload_n hx hb dX12_queryOf_419 rfl (lv_at hl 0 rfl) ?_
    obtain ⟨cs_4, hv_4, h⟩ := ob h
    refine calV (As := []) hx hb hml hts hown hK hP hD hS hA hZ (s_wrong l dC dI cB cI cJ cZ h0 a K V fz F cs1  cs_4 hv_4) (cw_wrong hts (fr := 1) (by show 1 + 1 ≤ n + 1 + 311; omega) (by show 8 + (1 + 11) + 60 * (1) ≤ 60 * (n + 1 + 311); omega)) rfl hl.1 (Nat.le_of_ble_eq_true rfl) ⟨Nat.zero_le _, Nat.zero_le _⟩ dX12_queryOf_420 (fun H locs hP hD hS => ?_)
    exact B_423 cs_4 u1 h _ _ _ hP hD hS (lv_sub hl [0, 1] rfl)
  have B_376 : ∀ (cs1 : RS) (u1 : Int32), m_queryOf_b376 F T cs1 u1 = some (cs9, r9) → ∀ (H : Heap) (locs : List Loc) (ls : Array Slot), va_P (dC, dI) vwCl (mW cB cI cJ cZ h0 a cs1) H → va_D A (mW cB cI cJ cZ h0 a cs1) → va_S A s.heap H locs → lv_has ls 8 [(0, .ref h0), (1, .int u1)] → W p l e (headSpec (wsOf yX12_queryOf cX12_queryOf 8 (some .int)) ({ frames := n + 1 + 311, cells := 0, slots := 0, locals := 60 * (n + 1 + 311) } : Room)).room s m ([.ref h0] : List Value).toArray below meth c H locs 0 0 (MQ below (va_Qi (fun (x : Int32) (_ : Unit) => x = r9) (fun _ t_ => va_P (dC, dI) vwCl (mW cB cI cJ cZ h0 a cs9) t_.heap ∧ va_D A (mW cB cI cJ cZ h0 a cs9)) A) ([.ref h0] : List Value).toArray s 0 0 A) (F0 m 376 ls []) := by
    intro cs1 u1 h H locs ls hP hD hS hl
    unfold m_queryOf_b376 at h
    refine lv_aload_n hx hb dX12_queryOf_376 rfl (lv_at hl 0 rfl) ?_
    refine va_ldcSW (own := RX12) (index := 472) (tx := soT 41) (q := K 41) hx hb hown (hZ.ref 41 (by decide)) dX12_queryOf_377 ?_
    obtain ⟨cs_5, hv_5, h⟩ := ob h
    refine calV (As := [.ref (K 41)]) hx hb hml hts hown hK hP hD hS hA hZ (s_needWord l dC dI cB cI cJ cZ h0 a K V fz F cs1 41 (by decide) cs_5 hv_5) (cw_needWord hts (fr := 9) (by show 9 + 1 ≤ n + 1 + 311; omega) (by show 8 + (2 + 11) + 60 * (9) ≤ 60 * (n + 1 + 311); omega)) rfl hl.1 (Nat.le_of_ble_eq_true rfl) ⟨Nat.zero_le _, Nat.zero_le _⟩ dX12_queryOf_380 (fun H locs hP hD hS => ?_)
    refine lv_aload_n hx hb dX12_queryOf_383 rfl (lv_at hl 0 rfl) ?_
    refine fg_21 hx hb hts hown hK hP dX12_queryOf_384 ?_
    refine lv_if_eq (tgt := 423) hx hb dX12_queryOf_387 (by decide) (fun c_6 => ?_) (fun c_6 => ?_)
    · skip
      replace h := (if_pos c_6).symm.trans h
      exact B_423 cs_5 u1 h _ _ _ hP hD hS (lv_sub hl [0, 1] rfl)
    · skip
      replace h := (if_neg c_6).symm.trans h
      refine lv_aload_n hx hb dX12_queryOf_390 rfl (lv_at hl 0 rfl) ?_
      refine fg_14 hx hb hts hown hK hP dX12_queryOf_391 ?_
      refine lv_aload_n hx hb dX12_queryOf_394 rfl (lv_at hl 0 rfl) ?_
      refine fg_18 hx hb hts hown hK hP dX12_queryOf_395 ?_
      obtain ⟨v_7, hv_7, h⟩ := ob h
      refine ag_14 hx hb hK hP hv_7 dX12_queryOf_398 ?_
      refine lv_iconst (v := 2) hx hb dX12_queryOf_399 (by decide) ?_
      refine lv_icmp_ne (tgt := 419) hx hb dX12_queryOf_400 (by decide) (fun c_8 => ?_) (fun c_8 => ?_)
      · skip
        replace h := (if_neg c_8).symm.trans h
        exact B_419 cs_5 u1 h _ _ _ hP hD hS (lv_sub hl [0, 1] rfl)
      · skip
        replace h := (if_pos c_8).symm.trans h
        refine lv_aload_n hx hb dX12_queryOf_403 rfl (lv_at hl 0 rfl) ?_
        refine fg_17 hx hb hts hown hK hP dX12_queryOf_404 ?_
        refine lv_aload_n hx hb dX12_queryOf_407 rfl (lv_at hl 0 rfl) ?_
        refine fg_18 hx hb hts hown hK hP dX12_queryOf_408 ?_
        obtain ⟨v_9, hv_9, h⟩ := ob h
        refine ag_17 hx hb hK hP hv_9 dX12_queryOf_411 ?_
        refine lv_ldc2 hx hb hown (hts _ (List.mem_cons_of_mem _ kw_2394)) dX12_queryOf_412 ?_
        refine W.lcmp hx hb dX12_queryOf_415 ?_
        refine lv_if_le (tgt := 423) hx hb dX12_queryOf_416 (by decide) (fun c_10 => ?_) (fun c_10 => ?_)
        · skip
          have c_10 : v_9 ≤ (100) := (lg_cmp_le _ _).mp c_10
          replace h := (if_pos c_10).symm.trans h
          exact B_423 cs_5 u1 h _ _ _ hP hD hS (lv_sub hl [0, 1] rfl)
        · skip
          have c_10 : ¬ (v_9 ≤ (100)) := fun h9 => c_10 ((lg_cmp_le _ _).mpr h9)
          replace h := (if_neg c_10).symm.trans h
          exact B_419 cs_5 u1 h _ _ _ hP hD hS (lv_sub hl [0, 1] rfl)
  have L_246 : ∀ (lf_246 : Nat), ∀ (cs1 : RS) (u1 : Int32) (u2 : Int32), m_queryOf_L246 F T lf_246 cs1 u1 u2 = some (cs9, r9) → ∀ (H : Heap) (locs : List Loc) (ls : Array Slot), va_P (dC, dI) vwCl (mW cB cI cJ cZ h0 a cs1) H → va_D A (mW cB cI cJ cZ h0 a cs1) → va_S A s.heap H locs → lv_has ls 8 [(0, .ref h0), (1, .int u1), (2, .int u2)] → W p l e (headSpec (wsOf yX12_queryOf cX12_queryOf 8 (some .int)) ({ frames := n + 1 + 311, cells := 0, slots := 0, locals := 60 * (n + 1 + 311) } : Room)).room s m ([.ref h0] : List Value).toArray below meth c H locs 0 0 (MQ below (va_Qi (fun (x : Int32) (_ : Unit) => x = r9) (fun _ t_ => va_P (dC, dI) vwCl (mW cB cI cJ cZ h0 a cs9) t_.heap ∧ va_D A (mW cB cI cJ cZ h0 a cs9)) A) ([.ref h0] : List Value).toArray s 0 0 A) (F0 m 246 ls []) := by
    intro lf_246
    induction lf_246 with
    | zero => intro cs1 u1 u2 h; cases (show (none : Option (RS × Int32)) = _ from h)
    | succ lf_246 ih_246 =>
      have B_366 : ∀ (cs1 : RS) (u1 : Int32), m_queryOf_b366 F T (m_queryOf_L246 F T lf_246) cs1 u1 = some (cs9, r9) → ∀ (H : Heap) (locs : List Loc) (ls : Array Slot), va_P (dC, dI) vwCl (mW cB cI cJ cZ h0 a cs1) H → va_D A (mW cB cI cJ cZ h0 a cs1) → va_S A s.heap H locs → lv_has ls 8 [(0, .ref h0), (1, .int u1)] → W p l e (headSpec (wsOf yX12_queryOf cX12_queryOf 8 (some .int)) ({ frames := n + 1 + 311, cells := 0, slots := 0, locals := 60 * (n + 1 + 311) } : Room)).room s m ([.ref h0] : List Value).toArray below meth c H locs 0 0 (MQ below (va_Qi (fun (x : Int32) (_ : Unit) => x = r9) (fun _ t_ => va_P (dC, dI) vwCl (mW cB cI cJ cZ h0 a cs9) t_.heap ∧ va_D A (mW cB cI cJ cZ h0 a cs9)) A) ([.ref h0] : List Value).toArray s 0 0 A) (F0 m 366 ls []) := by
        intro cs1 u1 h H locs ls hP hD hS hl
        unfold m_queryOf_b366 at h
        refine lv_aload_n hx hb dX12_queryOf_366 rfl (lv_at hl 0 rfl) ?_
        refine lv_bipush (v := 44) hx hb dX12_queryOf_367 (by decide) ?_
        obtain ⟨z_11, hv_11, h⟩ := ob h
        refine calI (As := [.int 44]) hx hb hml hts hown hK hP hD hS hA hZ (s_takeSign l dC dI cB cI cJ cZ h0 a K V fz F cs1 44 z_11.1 z_11.2 hv_11) (cw_takeSign hts (fr := 1) (by show 1 + 1 ≤ n + 1 + 311; omega) (by show 8 + (3 + 11) + 60 * (1) ≤ 60 * (n + 1 + 311); omega)) rfl hl.1 (Nat.le_of_ble_eq_true rfl) ⟨Nat.zero_le _, Nat.zero_le _⟩ dX12_queryOf_369 (fun H locs hP hD hS => ?_)
        refine lv_istore_n (lv' := [(2, .int z_11.2), (0, .ref h0), (1, .int u1)]) hx hb dX12_queryOf_372 rfl hl (by decide) rfl (fun ls hl => ?_)
        refine lv_goto (tgt := 246) hx hb dX12_queryOf_373 (by decide) ?_
        exact ih_246 z_11.1 u1 z_11.2 h _ _ _ hP hD hS (lv_sub hl [1, 2, 0] rfl)
      have B_310 : ∀ (cs1 : RS) (u1 : Int32) (u5 : Int32) (y0 : Int32), m_queryOf_b310 F T (m_queryOf_L246 F T lf_246) cs1 u1 u5 y0 = some (cs9, r9) → ∀ (H : Heap) (locs : List Loc) (ls : Array Slot), va_P (dC, dI) vwCl (mW cB cI cJ cZ h0 a cs1) H → va_D A (mW cB cI cJ cZ h0 a cs1) → va_S A s.heap H locs → lv_has ls 8 [(0, .ref h0), (1, .int u1), (5, .int u5)] → W p l e (headSpec (wsOf yX12_queryOf cX12_queryOf 8 (some .int)) ({ frames := n + 1 + 311, cells := 0, slots := 0, locals := 60 * (n + 1 + 311) } : Room)).room s m ([.ref h0] : List Value).toArray below meth c H locs 0 0 (MQ below (va_Qi (fun (x : Int32) (_ : Unit) => x = r9) (fun _ t_ => va_P (dC, dI) vwCl (mW cB cI cJ cZ h0 a cs9) t_.heap ∧ va_D A (mW cB cI cJ cZ h0 a cs9)) A) ([.ref h0] : List Value).toArray s 0 0 A) (F0 m 310 ls [.int y0]) := by
        intro cs1 u1 u5 y0 h H locs ls hP hD hS hl
        unfold m_queryOf_b310 at h
        refine lv_istore (lv' := [(6, .int y0), (0, .ref h0), (1, .int u1), (5, .int u5)]) hx hb dX12_queryOf_310 hl (by decide) rfl (fun ls hl => ?_)
        refine lv_aload_n hx hb dX12_queryOf_312 rfl (lv_at hl 1 rfl) ?_
        refine va_ldcSW (own := RX12) (index := 470) (tx := soT 40) (q := K 40) hx hb hown (hZ.ref 40 (by decide)) dX12_queryOf_313 ?_
        obtain ⟨z_12, hv_12, h⟩ := ob h
        refine calI (As := [.ref (K 40)]) hx hb hml hts hown hK hP hD hS hA hZ (s_takeWord l dC dI cB cI cJ cZ h0 a K V fz F cs1 40 (by decide) z_12.1 z_12.2 hv_12) (cw_takeWord hts (fr := 8) (by show 8 + 1 ≤ n + 1 + 311; omega) (by show 8 + (3 + 11) + 60 * (8) ≤ 60 * (n + 1 + 311); omega)) rfl hl.1 (Nat.le_of_ble_eq_true rfl) ⟨Nat.zero_le _, Nat.zero_le _⟩ dX12_queryOf_316 (fun H locs hP hD hS => ?_)
        refine lv_istore (lv' := [(7, .int z_12.2), (6, .int y0), (0, .ref h0), (1, .int u1), (5, .int u5)]) hx hb dX12_queryOf_319 hl (by decide) rfl (fun ls hl => ?_)
        refine lv_aload_n hx hb dX12_queryOf_321 rfl (lv_at hl 2 rfl) ?_
        refine fg_21 hx hb hts hown hK hP dX12_queryOf_322 ?_
        refine lv_if_eq (tgt := 366) hx hb dX12_queryOf_325 (by decide) (fun c_13 => ?_) (fun c_13 => ?_)
        · skip
          replace h := (if_pos c_13).symm.trans h
          exact B_366 z_12.1 u1 h _ _ _ hP hD hS (lv_sub hl [2, 3] rfl)
        · skip
          replace h := (if_neg c_13).symm.trans h
          refine lv_aload_n hx hb dX12_queryOf_328 rfl (lv_at hl 2 rfl) ?_
          refine fg_66 hx hb hts hown hK hP dX12_queryOf_329 ?_
          refine lv_bipush (v := 8) hx hb dX12_queryOf_332 (by decide) ?_
          refine lv_iload_n hx hb dX12_queryOf_334 rfl (lv_at hl 3 rfl) ?_
          refine lv_imul hx hb dX12_queryOf_335 ?_
          refine lv_iload hx hb dX12_queryOf_336 (lv_at hl 4 rfl) ?_
          refine lv_iadd hx hb dX12_queryOf_338 ?_
          refine lv_iload hx hb dX12_queryOf_339 (lv_at hl 1 rfl) ?_
          obtain ⟨cs_14, hv_14, h⟩ := ob h
          refine ap_66 hx hb hK hP hD hS hv_14 dX12_queryOf_341 (fun H locs hP hD hS => ?_)
          refine lv_aload_n hx hb dX12_queryOf_342 rfl (lv_at hl 2 rfl) ?_
          refine fg_67 hx hb hts hown hK hP dX12_queryOf_343 ?_
          refine lv_bipush (v := 8) hx hb dX12_queryOf_346 (by decide) ?_
          refine lv_iload_n hx hb dX12_queryOf_348 rfl (lv_at hl 3 rfl) ?_
          refine lv_imul hx hb dX12_queryOf_349 ?_
          refine lv_iload hx hb dX12_queryOf_350 (lv_at hl 4 rfl) ?_
          refine lv_iadd hx hb dX12_queryOf_352 ?_
          refine lv_iload hx hb dX12_queryOf_353 (lv_at hl 0 rfl) ?_
          obtain ⟨cs_15, hv_15, h⟩ := ob h
          refine ap_67 hx hb hK hP hD hS hv_15 dX12_queryOf_355 (fun H locs hP hD hS => ?_)
          refine lv_aload_n hx hb dX12_queryOf_356 rfl (lv_at hl 2 rfl) ?_
          refine fg_64 hx hb hts hown hK hP dX12_queryOf_357 ?_
          refine lv_iload_n hx hb dX12_queryOf_360 rfl (lv_at hl 3 rfl) ?_
          refine lv_dup2_11 hx hb dX12_queryOf_361 rfl rfl ?_
          obtain ⟨v_16, hv_16, h⟩ := ob h
          refine ag_64 hx hb hK hP hv_16 dX12_queryOf_362 ?_
          refine lv_iconst (v := 1) hx hb dX12_queryOf_363 (by decide) ?_
          refine lv_iadd hx hb dX12_queryOf_364 ?_
          obtain ⟨cs_17, hv_17, h⟩ := ob h
          refine ap_64 hx hb hK hP hD hS hv_17 dX12_queryOf_365 (fun H locs hP hD hS => ?_)
          exact B_366 cs_17 u1 h _ _ _ hP hD hS (lv_sub hl [2, 3] rfl)
      have B_295 : ∀ (cs1 : RS) (u1 : Int32) (u5 : Int32), m_queryOf_b295 F T (m_queryOf_L246 F T lf_246) cs1 u1 u5 = some (cs9, r9) → ∀ (H : Heap) (locs : List Loc) (ls : Array Slot), va_P (dC, dI) vwCl (mW cB cI cJ cZ h0 a cs1) H → va_D A (mW cB cI cJ cZ h0 a cs1) → va_S A s.heap H locs → lv_has ls 8 [(0, .ref h0), (1, .int u1), (5, .int u5)] → W p l e (headSpec (wsOf yX12_queryOf cX12_queryOf 8 (some .int)) ({ frames := n + 1 + 311, cells := 0, slots := 0, locals := 60 * (n + 1 + 311) } : Room)).room s m ([.ref h0] : List Value).toArray below meth c H locs 0 0 (MQ below (va_Qi (fun (x : Int32) (_ : Unit) => x = r9) (fun _ t_ => va_P (dC, dI) vwCl (mW cB cI cJ cZ h0 a cs9) t_.heap ∧ va_D A (mW cB cI cJ cZ h0 a cs9)) A) ([.ref h0] : List Value).toArray s 0 0 A) (F0 m 295 ls []) := by
        intro cs1 u1 u5 h H locs ls hP hD hS hl
        unfold m_queryOf_b295 at h
        refine lv_aload_n hx hb dX12_queryOf_295 rfl (lv_at hl 0 rfl) ?_
        refine fg_21 hx hb hts hown hK hP dX12_queryOf_296 ?_
        refine lv_if_eq (tgt := 309) hx hb dX12_queryOf_299 (by decide) (fun c_18 => ?_) (fun c_18 => ?_)
        · skip
          replace h := (if_pos c_18).symm.trans h
          refine lv_iconst (v := 0) hx hb dX12_queryOf_309 (by decide) ?_
          exact B_310 cs1 u1 u5 0 h _ _ _ hP hD hS (lv_sub hl [0, 1, 2] rfl)
        · skip
          replace h := (if_neg c_18).symm.trans h
          refine lv_aload_n hx hb dX12_queryOf_302 rfl (lv_at hl 0 rfl) ?_
          obtain ⟨z_19, hv_19, h⟩ := ob h
          refine calI (As := []) hx hb hml hts hown hK hP hD hS hA hZ (s_expr l dC dI cB cI cJ cZ h0 a K V fz F 300 cs1  z_19.1 z_19.2 hv_19) (cw_expr hts (fr := 310) (by show 310 + 1 ≤ n + 1 + 311; omega) (by show 8 + (5 + 11) + 60 * (310) ≤ 60 * (n + 1 + 311); omega)) rfl hl.1 (Nat.le_of_ble_eq_true rfl) ⟨Nat.zero_le _, Nat.zero_le _⟩ dX12_queryOf_303 (fun H locs hP hD hS => ?_)
          refine lv_goto (tgt := 310) hx hb dX12_queryOf_306 (by decide) ?_
          exact B_310 z_19.1 u1 u5 z_19.2 h _ _ _ hP hD hS (lv_sub hl [0, 1, 2] rfl)
      intro cs1 u1 u2 h H locs ls hP hD hS hl
      rw [m_queryOf_L246] at h
      refine lv_iload_n hx hb dX12_queryOf_246 rfl (lv_at hl 2 rfl) ?_
      refine lv_if_eq (tgt := 376) hx hb dX12_queryOf_247 (by decide) (fun c_20 => ?_) (fun c_20 => ?_)
      · skip
        replace h := (if_pos c_20).symm.trans h
        exact B_376 cs1 u1 h _ _ _ hP hD hS (lv_sub hl [0, 1] rfl)
      · skip
        replace h := (if_neg c_20).symm.trans h
        refine lv_aload_n hx hb dX12_queryOf_250 rfl (lv_at hl 0 rfl) ?_
        refine fg_21 hx hb hts hown hK hP dX12_queryOf_251 ?_
        refine lv_if_eq (tgt := 376) hx hb dX12_queryOf_254 (by decide) (fun c_21 => ?_) (fun c_21 => ?_)
        · skip
          replace h := (if_pos c_21).symm.trans h
          exact B_376 cs1 u1 h _ _ _ hP hD hS (lv_sub hl [0, 1] rfl)
        · skip
          replace h := (if_neg c_21).symm.trans h
          refine lv_aload_n hx hb dX12_queryOf_257 rfl (lv_at hl 0 rfl) ?_
          refine fg_64 hx hb hts hown hK hP dX12_queryOf_258 ?_
          refine lv_iload_n hx hb dX12_queryOf_261 rfl (lv_at hl 1 rfl) ?_
          obtain ⟨v_22, hv_22, h⟩ := ob h
          refine ag_64 hx hb hK hP hv_22 dX12_queryOf_262 ?_
          refine lv_istore (lv' := [(5, .int v_22), (0, .ref h0), (1, .int u1), (2, .int u2)]) hx hb dX12_queryOf_263 hl (by decide) rfl (fun ls hl => ?_)
          refine lv_iload hx hb dX12_queryOf_265 (lv_at hl 0 rfl) ?_
          refine lv_bipush (v := 8) hx hb dX12_queryOf_267 (by decide) ?_
          refine lv_icmp_ne (tgt := 295) hx hb dX12_queryOf_269 (by decide) (fun c_23 => ?_) (fun c_23 => ?_)
          · skip
            replace h := (if_neg c_23).symm.trans h
            exact B_295 cs1 u1 v_22 h _ _ _ hP hD hS (lv_sub hl [1, 2, 0] rfl)
          · skip
            replace h := (if_pos c_23).symm.trans h
            refine lv_aload_n hx hb dX12_queryOf_272 rfl (lv_at hl 1 rfl) ?_
            refine lv_iconst (v := 0) hx hb dX12_queryOf_273 (by decide) ?_
            obtain ⟨v_24, hv_24, h⟩ := ob h
            refine calI (As := [.int 0]) hx hb hml hts hown hK hP hD hS hA hZ (s_begins l dC dI cB cI cJ cZ h0 a K V fz F cs1 0 v_24 hv_24) (cw_begins hts (fr := 7) (by show 7 + 1 ≤ n + 1 + 311; omega) (by show 8 + (5 + 11) + 60 * (7) ≤ 60 * (n + 1 + 311); omega)) rfl hl.1 (Nat.le_of_ble_eq_true rfl) ⟨Nat.zero_le _, Nat.zero_le _⟩ dX12_queryOf_274 (fun H locs hP hD hS => ?_)
            refine lv_if_eq (tgt := 295) hx hb dX12_queryOf_277 (by decide) (fun c_25 => ?_) (fun c_25 => ?_)
            · skip
              replace h := (if_pos c_25).symm.trans h
              exact B_295 cs1 u1 v_22 h _ _ _ hP hD hS (lv_sub hl [1, 2, 0] rfl)
            · skip
              replace h := (if_neg c_25).symm.trans h
              refine lv_aload_n hx hb dX12_queryOf_280 rfl (lv_at hl 1 rfl) ?_
              refine lv_bipush (v := 7) hx hb dX12_queryOf_281 (by decide) ?_
              refine lv_aload_n hx hb dX12_queryOf_283 rfl (lv_at hl 1 rfl) ?_
              refine fg_15 hx hb hts hown hK hP dX12_queryOf_284 ?_
              refine lv_aload_n hx hb dX12_queryOf_287 rfl (lv_at hl 1 rfl) ?_
              refine fg_18 hx hb hts hown hK hP dX12_queryOf_288 ?_
              obtain ⟨v_26, hv_26, h⟩ := ob h
              refine ag_15 hx hb hK hP hv_26 dX12_queryOf_291 ?_
              obtain ⟨cs_27, hv_27, h⟩ := ob h
              refine calV (As := [.int 7, .int v_26]) hx hb hml hts hown hK hP hD hS hA hZ (s_tell l dC dI cB cI cJ cZ h0 a K V fz F cs1 7 v_26 cs_27 hv_27) (cw_tell hts (fr := 0) (by show 0 + 1 ≤ n + 1 + 311; omega) (by show 8 + (3 + 11) + 60 * (0) ≤ 60 * (n + 1 + 311); omega)) rfl hl.1 (Nat.le_of_ble_eq_true rfl) ⟨Nat.zero_le _, Nat.zero_le _⟩ dX12_queryOf_292 (fun H locs hP hD hS => ?_)
              exact B_295 cs_27 u1 v_22 h _ _ _ hP hD hS (lv_sub hl [1, 2, 0] rfl)
  have B_197 : ∀ (cs1 : RS) (u1 : Int32), m_queryOf_b197 F T cs1 u1 = some (cs9, r9) → ∀ (H : Heap) (locs : List Loc) (ls : Array Slot), va_P (dC, dI) vwCl (mW cB cI cJ cZ h0 a cs1) H → va_D A (mW cB cI cJ cZ h0 a cs1) → va_S A s.heap H locs → lv_has ls 8 [(0, .ref h0), (1, .int u1)] → W p l e (headSpec (wsOf yX12_queryOf cX12_queryOf 8 (some .int)) ({ frames := n + 1 + 311, cells := 0, slots := 0, locals := 60 * (n + 1 + 311) } : Room)).room s m ([.ref h0] : List Value).toArray below meth c H locs 0 0 (MQ below (va_Qi (fun (x : Int32) (_ : Unit) => x = r9) (fun _ t_ => va_P (dC, dI) vwCl (mW cB cI cJ cZ h0 a cs9) t_.heap ∧ va_D A (mW cB cI cJ cZ h0 a cs9)) A) ([.ref h0] : List Value).toArray s 0 0 A) (F0 m 197 ls []) := by
    intro cs1 u1 h H locs ls hP hD hS hl
    unfold m_queryOf_b197 at h
    refine lv_aload_n hx hb dX12_queryOf_197 rfl (lv_at hl 0 rfl) ?_
    refine va_ldcSW (own := RX12) (index := 467) (tx := soT 39) (q := K 39) hx hb hown (hZ.ref 39 (by decide)) dX12_queryOf_198 ?_
    obtain ⟨v_28, hv_28, h⟩ := ob h
    refine calI (As := [.ref (K 39)]) hx hb hml hts hown hK hP hD hS hA hZ (s_isWord l dC dI cB cI cJ cZ h0 a K V fz F cs1 39 (by decide) v_28 hv_28) (cw_isWord hts (fr := 7) (by show 7 + 1 ≤ n + 1 + 311; omega) (by show 8 + (2 + 11) + 60 * (7) ≤ 60 * (n + 1 + 311); omega)) rfl hl.1 (Nat.le_of_ble_eq_true rfl) ⟨Nat.zero_le _, Nat.zero_le _⟩ dX12_queryOf_201 (fun H locs hP hD hS => ?_)
    refine lv_if_eq (tgt := 456) hx hb dX12_queryOf_204 (by decide) (fun c_29 => ?_) (fun c_29 => ?_)
    · skip
      replace h := (if_pos c_29).symm.trans h
      exact B_456 cs1 u1 h _ _ _ hP hD hS (lv_sub hl [1] rfl)
    · skip
      replace h := (if_neg c_29).symm.trans h
      refine lv_aload_n hx hb dX12_queryOf_207 rfl (lv_at hl 0 rfl) ?_
      refine fg_65 hx hb hts hown hK hP dX12_queryOf_208 ?_
      refine lv_iload_n hx hb dX12_queryOf_211 rfl (lv_at hl 1 rfl) ?_
      refine lv_aload_n hx hb dX12_queryOf_212 rfl (lv_at hl 0 rfl) ?_
      refine fg_15 hx hb hts hown hK hP dX12_queryOf_213 ?_
      refine lv_aload_n hx hb dX12_queryOf_216 rfl (lv_at hl 0 rfl) ?_
      refine fg_18 hx hb hts hown hK hP dX12_queryOf_217 ?_
      obtain ⟨v_30, hv_30, h⟩ := ob h
      refine ag_15 hx hb hK hP hv_30 dX12_queryOf_220 ?_
      obtain ⟨cs_31, hv_31, h⟩ := ob h
      refine ap_65 hx hb hK hP hD hS hv_31 dX12_queryOf_221 (fun H locs hP hD hS => ?_)
      refine lv_aload_n hx hb dX12_queryOf_222 rfl (lv_at hl 0 rfl) ?_
      refine lv_dup hx hb dX12_queryOf_223 rfl ?_
      refine fg_18 hx hb hts hown hK hP dX12_queryOf_224 ?_
      refine lv_iconst (v := 1) hx hb dX12_queryOf_227 (by decide) ?_
      refine lv_iadd hx hb dX12_queryOf_228 ?_
      refine fp_18 hx hb hts hown hK hP hD hS dX12_queryOf_229 (fun H locs hP hD hS => ?_)
      refine lv_aload_n hx hb dX12_queryOf_232 rfl (lv_at hl 0 rfl) ?_
      refine va_ldcSW (own := RX12) (index := 468) (tx := soT 33) (q := K 33) hx hb hown (hZ.ref 33 (by decide)) dX12_queryOf_233 ?_
      obtain ⟨cs_32, hv_32, h⟩ := ob h
      refine calV (As := [.ref (K 33)]) hx hb hml hts hown hK hP hD hS hA hZ (s_needWord l dC dI cB cI cJ cZ h0 a K V fz F (setF cs_31 18 ((cs_31.1 18) + 1)) 33 (by decide) cs_32 hv_32) (cw_needWord hts (fr := 9) (by show 9 + 1 ≤ n + 1 + 311; omega) (by show 8 + (2 + 11) + 60 * (9) ≤ 60 * (n + 1 + 311); omega)) rfl hl.1 (Nat.le_of_ble_eq_true rfl) ⟨Nat.zero_le _, Nat.zero_le _⟩ dX12_queryOf_236 (fun H locs hP hD hS => ?_)
      refine lv_aload_n hx hb dX12_queryOf_239 rfl (lv_at hl 0 rfl) ?_
      refine lv_iconst (v := 0) hx hb dX12_queryOf_240 (by decide) ?_
      refine fp_72 hx hb hts hown hK hP hD hS (Or.inl rfl) dX12_queryOf_241 (fun H locs hP hD hS => ?_)
      refine lv_iconst (v := 1) hx hb dX12_queryOf_244 (by decide) ?_
      refine lv_istore_n (lv' := [(2, .int 1), (0, .ref h0), (1, .int u1)]) hx hb dX12_queryOf_245 rfl hl (by decide) rfl (fun ls hl => ?_)
      exact L_246 F (setF cs_32 72 0) u1 1 h _ _ _ hP hD hS (lv_sub hl [1, 2, 0] rfl)
  have L_50 : ∀ (lf_50 : Nat), ∀ (cs1 : RS) (u1 : Int32) (u2 : Int32) (u3 : Int32) (u4 : Int32), m_queryOf_L50 F T lf_50 cs1 u1 u2 u3 u4 = some (cs9, r9) → ∀ (H : Heap) (locs : List Loc) (ls : Array Slot), va_P (dC, dI) vwCl (mW cB cI cJ cZ h0 a cs1) H → va_D A (mW cB cI cJ cZ h0 a cs1) → va_S A s.heap H locs → lv_has ls 8 [(0, .ref h0), (1, .int u1), (2, .int u2), (3, .int u3), (4, .int u4)] → W p l e (headSpec (wsOf yX12_queryOf cX12_queryOf 8 (some .int)) ({ frames := n + 1 + 311, cells := 0, slots := 0, locals := 60 * (n + 1 + 311) } : Room)).room s m ([.ref h0] : List Value).toArray below meth c H locs 0 0 (MQ below (va_Qi (fun (x : Int32) (_ : Unit) => x = r9) (fun _ t_ => va_P (dC, dI) vwCl (mW cB cI cJ cZ h0 a cs9) t_.heap ∧ va_D A (mW cB cI cJ cZ h0 a cs9)) A) ([.ref h0] : List Value).toArray s 0 0 A) (F0 m 50 ls []) := by
    intro lf_50
    induction lf_50 with
    | zero => intro cs1 u1 u2 u3 u4 h; cases (show (none : Option (RS × Int32)) = _ from h)
    | succ lf_50 ih_50 =>
      have B_194 : ∀ (cs1 : RS) (u1 : Int32) (u2 : Int32) (u3 : Int32) (u4 : Int32), m_queryOf_b194 F T (m_queryOf_L50 F T lf_50) cs1 u1 u2 u3 u4 = some (cs9, r9) → ∀ (H : Heap) (locs : List Loc) (ls : Array Slot), va_P (dC, dI) vwCl (mW cB cI cJ cZ h0 a cs1) H → va_D A (mW cB cI cJ cZ h0 a cs1) → va_S A s.heap H locs → lv_has ls 8 [(0, .ref h0), (1, .int u1), (2, .int u2), (3, .int u3), (4, .int u4)] → W p l e (headSpec (wsOf yX12_queryOf cX12_queryOf 8 (some .int)) ({ frames := n + 1 + 311, cells := 0, slots := 0, locals := 60 * (n + 1 + 311) } : Room)).room s m ([.ref h0] : List Value).toArray below meth c H locs 0 0 (MQ below (va_Qi (fun (x : Int32) (_ : Unit) => x = r9) (fun _ t_ => va_P (dC, dI) vwCl (mW cB cI cJ cZ h0 a cs9) t_.heap ∧ va_D A (mW cB cI cJ cZ h0 a cs9)) A) ([.ref h0] : List Value).toArray s 0 0 A) (F0 m 194 ls []) := by
        intro cs1 u1 u2 u3 u4 h H locs ls hP hD hS hl
        unfold m_queryOf_b194 at h
        refine lv_goto (tgt := 50) hx hb dX12_queryOf_194 (by decide) ?_
        exact ih_50 cs1 u1 u2 u3 u4 h _ _ _ hP hD hS (lv_sub hl [0, 1, 2, 3, 4] rfl)
      have B_158 : ∀ (cs1 : RS) (u1 : Int32) (u2 : Int32) (u4 : Int32) (y0 : Int32), m_queryOf_b158 F T (m_queryOf_L50 F T lf_50) cs1 u1 u2 u4 y0 = some (cs9, r9) → ∀ (H : Heap) (locs : List Loc) (ls : Array Slot), va_P (dC, dI) vwCl (mW cB cI cJ cZ h0 a cs1) H → va_D A (mW cB cI cJ cZ h0 a cs1) → va_S A s.heap H locs → lv_has ls 8 [(0, .ref h0), (1, .int u1), (2, .int u2), (4, .int u4)] → W p l e (headSpec (wsOf yX12_queryOf cX12_queryOf 8 (some .int)) ({ frames := n + 1 + 311, cells := 0, slots := 0, locals := 60 * (n + 1 + 311) } : Room)).room s m ([.ref h0] : List Value).toArray below meth c H locs 0 0 (MQ below (va_Qi (fun (x : Int32) (_ : Unit) => x = r9) (fun _ t_ => va_P (dC, dI) vwCl (mW cB cI cJ cZ h0 a cs9) t_.heap ∧ va_D A (mW cB cI cJ cZ h0 a cs9)) A) ([.ref h0] : List Value).toArray s 0 0 A) (F0 m 158 ls [.int y0]) := by
        intro cs1 u1 u2 u4 y0 h H locs ls hP hD hS hl
        unfold m_queryOf_b158 at h
        refine lv_istore_n (lv' := [(3, .int y0), (0, .ref h0), (1, .int u1), (2, .int u2), (4, .int u4)]) hx hb dX12_queryOf_158 rfl hl (by decide) rfl (fun ls hl => ?_)
        refine lv_goto (tgt := 194) hx hb dX12_queryOf_159 (by decide) ?_
        exact B_194 cs1 u1 u2 y0 u4 h _ _ _ hP hD hS (lv_sub hl [1, 2, 3, 0, 4] rfl)
      have B_122 : ∀ (cs1 : RS) (u1 : Int32) (u2 : Int32) (u3 : Int32), m_queryOf_b122 F T (m_queryOf_L50 F T lf_50) cs1 u1 u2 u3 = some (cs9, r9) → ∀ (H : Heap) (locs : List Loc) (ls : Array Slot), va_P (dC, dI) vwCl (mW cB cI cJ cZ h0 a cs1) H → va_D A (mW cB cI cJ cZ h0 a cs1) → va_S A s.heap H locs → lv_has ls 8 [(0, .ref h0), (1, .int u1), (2, .int u2), (3, .int u3)] → W p l e (headSpec (wsOf yX12_queryOf cX12_queryOf 8 (some .int)) ({ frames := n + 1 + 311, cells := 0, slots := 0, locals := 60 * (n + 1 + 311) } : Room)).room s m ([.ref h0] : List Value).toArray below meth c H locs 0 0 (MQ below (va_Qi (fun (x : Int32) (_ : Unit) => x = r9) (fun _ t_ => va_P (dC, dI) vwCl (mW cB cI cJ cZ h0 a cs9) t_.heap ∧ va_D A (mW cB cI cJ cZ h0 a cs9)) A) ([.ref h0] : List Value).toArray s 0 0 A) (F0 m 122 ls []) := by
        intro cs1 u1 u2 u3 h H locs ls hP hD hS hl
        unfold m_queryOf_b122 at h
        refine lv_aload_n hx hb dX12_queryOf_122 rfl (lv_at hl 0 rfl) ?_
        refine fg_15 hx hb hts hown hK hP dX12_queryOf_123 ?_
        refine lv_aload_n hx hb dX12_queryOf_126 rfl (lv_at hl 0 rfl) ?_
        refine fg_18 hx hb hts hown hK hP dX12_queryOf_127 ?_
        obtain ⟨v_33, hv_33, h⟩ := ob h
        refine ag_15 hx hb hK hP hv_33 dX12_queryOf_130 ?_
        refine lv_istore (lv' := [(4, .int v_33), (0, .ref h0), (1, .int u1), (2, .int u2), (3, .int u3)]) hx hb dX12_queryOf_131 hl (by decide) rfl (fun ls hl => ?_)
        refine lv_aload_n hx hb dX12_queryOf_133 rfl (lv_at hl 1 rfl) ?_
        refine va_ldcSW (own := RX12) (index := 459) (tx := soT 35) (q := K 35) hx hb hown (hZ.ref 35 (by decide)) dX12_queryOf_134 ?_
        obtain ⟨z_34, hv_34, h⟩ := ob h
        refine calI (As := [.ref (K 35)]) hx hb hml hts hown hK hP hD hS hA hZ (s_takeWord l dC dI cB cI cJ cZ h0 a K V fz F cs1 35 (by decide) z_34.1 z_34.2 hv_34) (cw_takeWord hts (fr := 8) (by show 8 + 1 ≤ n + 1 + 311; omega) (by show 8 + (3 + 11) + 60 * (8) ≤ 60 * (n + 1 + 311); omega)) rfl hl.1 (Nat.le_of_ble_eq_true rfl) ⟨Nat.zero_le _, Nat.zero_le _⟩ dX12_queryOf_137 (fun H locs hP hD hS => ?_)
        refine lv_if_eq (tgt := 162) hx hb dX12_queryOf_140 (by decide) (fun c_35 => ?_) (fun c_35 => ?_)
        · skip
          replace h := (if_pos c_35).symm.trans h
          refine lv_aload_n hx hb dX12_queryOf_162 rfl (lv_at hl 1 rfl) ?_
          refine va_ldcSW (own := RX12) (index := 463) (tx := soT 37) (q := K 37) hx hb hown (hZ.ref 37 (by decide)) dX12_queryOf_163 ?_
          obtain ⟨z_36, hv_36, h⟩ := ob h
          refine calI (As := [.ref (K 37)]) hx hb hml hts hown hK hP hD hS hA hZ (s_takeWord l dC dI cB cI cJ cZ h0 a K V fz F z_34.1 37 (by decide) z_36.1 z_36.2 hv_36) (cw_takeWord hts (fr := 8) (by show 8 + 1 ≤ n + 1 + 311; omega) (by show 8 + (3 + 11) + 60 * (8) ≤ 60 * (n + 1 + 311); omega)) rfl hl.1 (Nat.le_of_ble_eq_true rfl) ⟨Nat.zero_le _, Nat.zero_le _⟩ dX12_queryOf_166 (fun H locs hP hD hS => ?_)
          refine lv_if_eq (tgt := 177) hx hb dX12_queryOf_169 (by decide) (fun c_37 => ?_) (fun c_37 => ?_)
          · skip
            replace h := (if_pos c_37).symm.trans h
            refine lv_aload_n hx hb dX12_queryOf_177 rfl (lv_at hl 1 rfl) ?_
            refine va_ldcSW (own := RX12) (index := 465) (tx := soT 38) (q := K 38) hx hb hown (hZ.ref 38 (by decide)) dX12_queryOf_178 ?_
            obtain ⟨z_38, hv_38, h⟩ := ob h
            refine calI (As := [.ref (K 38)]) hx hb hml hts hown hK hP hD hS hA hZ (s_takeWord l dC dI cB cI cJ cZ h0 a K V fz F z_36.1 38 (by decide) z_38.1 z_38.2 hv_38) (cw_takeWord hts (fr := 8) (by show 8 + 1 ≤ n + 1 + 311; omega) (by show 8 + (3 + 11) + 60 * (8) ≤ 60 * (n + 1 + 311); omega)) rfl hl.1 (Nat.le_of_ble_eq_true rfl) ⟨Nat.zero_le _, Nat.zero_le _⟩ dX12_queryOf_181 (fun H locs hP hD hS => ?_)
            refine lv_if_eq (tgt := 192) hx hb dX12_queryOf_184 (by decide) (fun c_39 => ?_) (fun c_39 => ?_)
            · skip
              replace h := (if_pos c_39).symm.trans h
              refine lv_iconst (v := 0) hx hb dX12_queryOf_192 (by decide) ?_
              refine lv_istore_n (lv' := [(2, .int 0), (4, .int v_33), (0, .ref h0), (1, .int u1), (3, .int u3)]) hx hb dX12_queryOf_193 rfl hl (by decide) rfl (fun ls hl => ?_)
              exact B_194 z_38.1 u1 0 u3 v_33 h _ _ _ hP hD hS (lv_sub hl [2, 3, 0, 4, 1] rfl)
            · skip
              replace h := (if_neg c_39).symm.trans h
              refine lv_iconst (v := 4) hx hb dX12_queryOf_187 (by decide) ?_
              refine lv_istore_n (lv' := [(3, .int 4), (4, .int v_33), (0, .ref h0), (1, .int u1), (2, .int u2)]) hx hb dX12_queryOf_188 rfl hl (by decide) rfl (fun ls hl => ?_)
              refine lv_goto (tgt := 194) hx hb dX12_queryOf_189 (by decide) ?_
              exact B_194 z_38.1 u1 u2 4 v_33 h _ _ _ hP hD hS (lv_sub hl [2, 3, 4, 0, 1] rfl)
          · skip
            replace h := (if_neg c_37).symm.trans h
            refine lv_iconst (v := 3) hx hb dX12_queryOf_172 (by decide) ?_
            refine lv_istore_n (lv' := [(3, .int 3), (4, .int v_33), (0, .ref h0), (1, .int u1), (2, .int u2)]) hx hb dX12_queryOf_173 rfl hl (by decide) rfl (fun ls hl => ?_)
            refine lv_goto (tgt := 194) hx hb dX12_queryOf_174 (by decide) ?_
            exact B_194 z_36.1 u1 u2 3 v_33 h _ _ _ hP hD hS (lv_sub hl [2, 3, 4, 0, 1] rfl)
        · skip
          replace h := (if_neg c_35).symm.trans h
          refine lv_aload_n hx hb dX12_queryOf_143 rfl (lv_at hl 1 rfl) ?_
          refine va_ldcSW (own := RX12) (index := 461) (tx := soT 36) (q := K 36) hx hb hown (hZ.ref 36 (by decide)) dX12_queryOf_144 ?_
          obtain ⟨z_40, hv_40, h⟩ := ob h
          refine calI (As := [.ref (K 36)]) hx hb hml hts hown hK hP hD hS hA hZ (s_takeWord l dC dI cB cI cJ cZ h0 a K V fz F z_34.1 36 (by decide) z_40.1 z_40.2 hv_40) (cw_takeWord hts (fr := 8) (by show 8 + 1 ≤ n + 1 + 311; omega) (by show 8 + (3 + 11) + 60 * (8) ≤ 60 * (n + 1 + 311); omega)) rfl hl.1 (Nat.le_of_ble_eq_true rfl) ⟨Nat.zero_le _, Nat.zero_le _⟩ dX12_queryOf_147 (fun H locs hP hD hS => ?_)
          refine lv_if_eq (tgt := 157) hx hb dX12_queryOf_150 (by decide) (fun c_41 => ?_) (fun c_41 => ?_)
          · skip
            replace h := (if_pos c_41).symm.trans h
            refine lv_iconst (v := 2) hx hb dX12_queryOf_157 (by decide) ?_
            exact B_158 z_40.1 u1 u2 v_33 2 h _ _ _ hP hD hS (lv_sub hl [1, 2, 3, 0] rfl)
          · skip
            replace h := (if_neg c_41).symm.trans h
            refine lv_iconst (v := 1) hx hb dX12_queryOf_153 (by decide) ?_
            refine lv_goto (tgt := 158) hx hb dX12_queryOf_154 (by decide) ?_
            exact B_158 z_40.1 u1 u2 v_33 1 h _ _ _ hP hD hS (lv_sub hl [1, 2, 3, 0] rfl)
      intro cs1 u1 u2 u3 u4 h H locs ls hP hD hS hl
      rw [m_queryOf_L50] at h
      refine lv_iload_n hx hb dX12_queryOf_50 rfl (lv_at hl 2 rfl) ?_
      refine lv_if_eq (tgt := 197) hx hb dX12_queryOf_51 (by decide) (fun c_42 => ?_) (fun c_42 => ?_)
      · skip
        replace h := (if_pos c_42).symm.trans h
        exact B_197 cs1 u1 h _ _ _ hP hD hS (lv_sub hl [0, 1] rfl)
      · skip
        replace h := (if_neg c_42).symm.trans h
        refine lv_aload_n hx hb dX12_queryOf_54 rfl (lv_at hl 0 rfl) ?_
        refine fg_21 hx hb hts hown hK hP dX12_queryOf_55 ?_
        refine lv_if_eq (tgt := 197) hx hb dX12_queryOf_58 (by decide) (fun c_43 => ?_) (fun c_43 => ?_)
        · skip
          replace h := (if_pos c_43).symm.trans h
          exact B_197 cs1 u1 h _ _ _ hP hD hS (lv_sub hl [0, 1] rfl)
        · skip
          replace h := (if_neg c_43).symm.trans h
          refine lv_aload_n hx hb dX12_queryOf_61 rfl (lv_at hl 0 rfl) ?_
          obtain ⟨z_44, hv_44, h⟩ := ob h
          refine calI (As := []) hx hb hml hts hown hK hP hD hS hA hZ (hT_selectOf cs1  z_44.1 z_44.2 hv_44) (cw_selectOf hts (fr := n + 311) (by show n + 311 + 1 ≤ n + 1 + 311; omega) (by show 8 + (9 + 11) + 60 * (n + 311) ≤ 60 * (n + 1 + 311); omega)) rfl hl.1 (Nat.le_of_ble_eq_true rfl) ⟨Nat.zero_le _, Nat.zero_le _⟩ dX12_queryOf_62 (fun H locs hP hD hS => ?_)
          refine lv_istore (lv' := [(5, .int z_44.2), (0, .ref h0), (1, .int u1), (2, .int u2), (3, .int u3), (4, .int u4)]) hx hb dX12_queryOf_65 hl (by decide) rfl (fun ls hl => ?_)
          refine lv_iconst (v := 5) hx hb dX12_queryOf_67 (by decide) ?_
          refine lv_iload_n hx hb dX12_queryOf_68 rfl (lv_at hl 2 rfl) ?_
          refine lv_imul hx hb dX12_queryOf_69 ?_
          refine lv_aload_n hx hb dX12_queryOf_70 rfl (lv_at hl 1 rfl) ?_
          refine fg_60 hx hb hts hown hK hP dX12_queryOf_71 ?_
          refine lv_iload_n hx hb dX12_queryOf_74 rfl (lv_at hl 2 rfl) ?_
          obtain ⟨v_45, hv_45, h⟩ := ob h
          refine ag_60 hx hb hK hP hv_45 dX12_queryOf_75 ?_
          refine lv_iadd hx hb dX12_queryOf_76 ?_
          refine lv_istore (lv' := [(6, .int ((5 * u1) + v_45)), (5, .int z_44.2), (0, .ref h0), (1, .int u1), (2, .int u2), (3, .int u3), (4, .int u4)]) hx hb dX12_queryOf_77 hl (by decide) rfl (fun ls hl => ?_)
          refine lv_aload_n hx hb dX12_queryOf_79 rfl (lv_at hl 2 rfl) ?_
          refine fg_21 hx hb hts hown hK hP dX12_queryOf_80 ?_
          refine lv_if_eq (tgt := 122) hx hb dX12_queryOf_83 (by decide) (fun c_46 => ?_) (fun c_46 => ?_)
          · skip
            replace h := (if_pos c_46).symm.trans h
            exact B_122 z_44.1 u1 u2 u3 h _ _ _ hP hD hS (lv_sub hl [2, 3, 4, 5] rfl)
          · skip
            replace h := (if_neg c_46).symm.trans h
            refine lv_aload_n hx hb dX12_queryOf_86 rfl (lv_at hl 2 rfl) ?_
            refine fg_61 hx hb hts hown hK hP dX12_queryOf_87 ?_
            refine lv_iload hx hb dX12_queryOf_90 (lv_at hl 0 rfl) ?_
            refine lv_iload hx hb dX12_queryOf_92 (lv_at hl 1 rfl) ?_
            obtain ⟨cs_47, hv_47, h⟩ := ob h
            refine ap_61 hx hb hK hP hD hS hv_47 dX12_queryOf_94 (fun H locs hP hD hS => ?_)
            refine lv_aload_n hx hb dX12_queryOf_95 rfl (lv_at hl 2 rfl) ?_
            refine fg_62 hx hb hts hown hK hP dX12_queryOf_96 ?_
            refine lv_iload hx hb dX12_queryOf_99 (lv_at hl 0 rfl) ?_
            refine lv_iload_n hx hb dX12_queryOf_101 rfl (lv_at hl 5 rfl) ?_
            obtain ⟨cs_48, hv_48, h⟩ := ob h
            refine ap_62 hx hb hK hP hD hS hv_48 dX12_queryOf_102 (fun H locs hP hD hS => ?_)
            refine lv_aload_n hx hb dX12_queryOf_103 rfl (lv_at hl 2 rfl) ?_
            refine fg_63 hx hb hts hown hK hP dX12_queryOf_104 ?_
            refine lv_iload hx hb dX12_queryOf_107 (lv_at hl 0 rfl) ?_
            refine lv_iload hx hb dX12_queryOf_109 (lv_at hl 6 rfl) ?_
            obtain ⟨cs_49, hv_49, h⟩ := ob h
            refine ap_63 hx hb hK hP hD hS hv_49 dX12_queryOf_111 (fun H locs hP hD hS => ?_)
            refine lv_aload_n hx hb dX12_queryOf_112 rfl (lv_at hl 2 rfl) ?_
            refine fg_60 hx hb hts hown hK hP dX12_queryOf_113 ?_
            refine lv_iload_n hx hb dX12_queryOf_116 rfl (lv_at hl 3 rfl) ?_
            refine lv_dup2_11 hx hb dX12_queryOf_117 rfl rfl ?_
            obtain ⟨v_50, hv_50, h⟩ := ob h
            refine ag_60 hx hb hK hP hv_50 dX12_queryOf_118 ?_
            refine lv_iconst (v := 1) hx hb dX12_queryOf_119 (by decide) ?_
            refine lv_iadd hx hb dX12_queryOf_120 ?_
            obtain ⟨cs_51, hv_51, h⟩ := ob h
            refine ap_60 hx hb hK hP hD hS hv_51 dX12_queryOf_121 (fun H locs hP hD hS => ?_)
            exact B_122 cs_51 u1 u2 u3 h _ _ _ hP hD hS (lv_sub hl [2, 3, 4, 5] rfl)
  have h := hf
  unfold b_queryOf at h
  refine lv_aload_n hx hb dX12_queryOf_0 rfl (lv_at hl 0 rfl) ?_
  refine fg_59 hx hb hts hown hK hP dX12_queryOf_1 ?_
  refine lv_istore_n (lv' := [(1, .int (cs.1 59)), (0, .ref h0)]) hx hb dX12_queryOf_4 rfl hl (by decide) rfl (fun ls hl => ?_)
  refine lv_aload_n hx hb dX12_queryOf_5 rfl (lv_at hl 1 rfl) ?_
  refine lv_dup hx hb dX12_queryOf_6 rfl ?_
  refine fg_59 hx hb hts hown hK hP dX12_queryOf_7 ?_
  refine lv_iconst (v := 1) hx hb dX12_queryOf_10 (by decide) ?_
  refine lv_iadd hx hb dX12_queryOf_11 ?_
  refine fp_59 hx hb hts hown hK hP hD hS dX12_queryOf_12 (fun H locs hP hD hS => ?_)
  refine lv_aload_n hx hb dX12_queryOf_15 rfl (lv_at hl 1 rfl) ?_
  refine fg_60 hx hb hts hown hK hP dX12_queryOf_16 ?_
  refine lv_iload_n hx hb dX12_queryOf_19 rfl (lv_at hl 0 rfl) ?_
  refine lv_iconst (v := 0) hx hb dX12_queryOf_20 (by decide) ?_
  obtain ⟨cs_52, hv_52, h⟩ := ob h
  refine ap_60 hx hb hK hP hD hS hv_52 dX12_queryOf_21 (fun H locs hP hD hS => ?_)
  refine lv_aload_n hx hb dX12_queryOf_22 rfl (lv_at hl 1 rfl) ?_
  refine fg_64 hx hb hts hown hK hP dX12_queryOf_23 ?_
  refine lv_iload_n hx hb dX12_queryOf_26 rfl (lv_at hl 0 rfl) ?_
  refine lv_iconst (v := 0) hx hb dX12_queryOf_27 (by decide) ?_
  obtain ⟨cs_53, hv_53, h⟩ := ob h
  refine ap_64 hx hb hK hP hD hS hv_53 dX12_queryOf_28 (fun H locs hP hD hS => ?_)
  refine lv_aload_n hx hb dX12_queryOf_29 rfl (lv_at hl 1 rfl) ?_
  refine fg_68 hx hb hts hown hK hP dX12_queryOf_30 ?_
  refine lv_iload_n hx hb dX12_queryOf_33 rfl (lv_at hl 0 rfl) ?_
  refine lv_iconst (v := (-1)) hx hb dX12_queryOf_34 (by decide) ?_
  obtain ⟨cs_54, hv_54, h⟩ := ob h
  refine ap_68 hx hb hK hP hD hS hv_54 dX12_queryOf_35 (fun H locs hP hD hS => ?_)
  refine lv_aload_n hx hb dX12_queryOf_36 rfl (lv_at hl 1 rfl) ?_
  refine fg_65 hx hb hts hown hK hP dX12_queryOf_37 ?_
  refine lv_iload_n hx hb dX12_queryOf_40 rfl (lv_at hl 0 rfl) ?_
  refine lv_iconst (v := (-1)) hx hb dX12_queryOf_41 (by decide) ?_
  obtain ⟨cs_55, hv_55, h⟩ := ob h
  refine ap_65 hx hb hK hP hD hS hv_55 dX12_queryOf_42 (fun H locs hP hD hS => ?_)
  refine lv_iconst (v := 1) hx hb dX12_queryOf_43 (by decide) ?_
  refine lv_istore_n (lv' := [(2, .int 1), (1, .int (cs.1 59)), (0, .ref h0)]) hx hb dX12_queryOf_44 rfl hl (by decide) rfl (fun ls hl => ?_)
  refine lv_iconst (v := 0) hx hb dX12_queryOf_45 (by decide) ?_
  refine lv_istore_n (lv' := [(3, .int 0), (2, .int 1), (1, .int (cs.1 59)), (0, .ref h0)]) hx hb dX12_queryOf_46 rfl hl (by decide) rfl (fun ls hl => ?_)
  refine lv_iconst (v := 0) hx hb dX12_queryOf_47 (by decide) ?_
  refine lv_istore (lv' := [(4, .int 0), (3, .int 0), (2, .int 1), (1, .int (cs.1 59)), (0, .ref h0)]) hx hb dX12_queryOf_48 hl (by decide) rfl (fun ls hl => ?_)
  exact L_50 F cs_55 (cs.1 59) 1 0 0 h _ _ _ hP hD hS (lv_sub hl [4, 3, 2, 1, 0] rfl)
set_option maxHeartbeats 4000000 in
set_option maxRecDepth 100000 in
theorem sb_selectOf (l : Launch) (dC : Nat → ClassId) (dI : Nat → Nat → Nat) (cB cI cJ cZ : ClassId) (h0 : Nat) (a : Nat → Nat) (K V : Nat → Nat) (fz : Value) (F : Nat) (n : Nat) (T : TG_queryOf) (hT_queryOf : ∀ (cs : RS) (cs9 : RS) (r9 : Int32), T.1 cs = some (cs9, r9) → okI l dC dI cB cI cJ cZ h0 a K V fz yX12_queryOf (wsOf yX12_queryOf cX12_queryOf 8 (some .int)) (n + 311) [.ref h0] cs cs9 r9) (hT_selectOf : ∀ (cs : RS) (cs9 : RS) (r9 : Int32), T.2.1 cs = some (cs9, r9) → okI l dC dI cB cI cJ cZ h0 a K V fz yX12_selectOf (wsOf yX12_selectOf cX12_selectOf 9 (some .int)) (n + 311) [.ref h0] cs cs9 r9) (hT_source : ∀ (cs : RS) (x1 : Int32) (x2 : Int32) (x3 : Int32) (cs9 : RS), T.2.2 cs x1 x2 x3 = some cs9 → okV l dC dI cB cI cJ cZ h0 a K V fz yX12_source (wsOf yX12_source cX12_source 7 none) (n + 311) [.ref h0, .int x1, .int x2, .int x3] cs cs9) (cs : RS) (cs9 : RS) (r9 : Int32) (hf : b_selectOf F T cs = some (cs9, r9)) : okI l dC dI cB cI cJ cZ h0 a K V fz yX12_selectOf (wsOf yX12_selectOf cX12_selectOf 9 (some .int)) (n + 1 + 311) [.ref h0] cs cs9 r9 := by
  intro sz
  refine Met.ofW (cc := cX12_selectOf) (maxL := 9) (ret := (some .int)) (by decide) rfl ?_
  intro p e s m args below meth c s₁ B hml hv
  obtain ⟨rfl, hsz, hP, hK, hD0, hZ⟩ := hv
  have hx := B.exec
  have hb := B.bytes
  have hr := B.returns
  have hts := atoms_spec (ws := (wsOf yX12_selectOf cX12_selectOf 9 (some .int))) B.pre
  have hown : s.vm.findClass RX12 = some m.cls := findClass_of_methodNamed B.named
  have hlocks := B.notSynchronized
  subst hsz
  have hD := hD0.self (sz := s.heap.size)
  generalize hAe : va_A (mW cB cI cJ cZ h0 a cs) s.heap.size = A at hD hZ ⊢
  have hA : ∀ q : Nat, s.heap.size ≤ q → A q := fun q h => by rw [← hAe]; exact Or.inr h
  have hS : va_S A s.heap s.heap [] := va_S.rf
  have hl := lv_entry ([.ref h0]) (n := 9) (Nat.le_of_ble_eq_true rfl)
  rw [lg_entry_eq]
  generalize (lg_sl ([.ref h0]) ++ List.replicate (9 - (lg_sl ([.ref h0])).length) Slot.unset).toArray = ls at hl ⊢
  have hl : lv_has ls 9 [(0, .ref h0)] := hl
  have B_777 : ∀ (cs1 : RS) (u1 : Int32) (u2 : Int32), m_selectOf_b777 F T cs1 u1 u2 = some (cs9, r9) → ∀ (H : Heap) (locs : List Loc) (ls : Array Slot), va_P (dC, dI) vwCl (mW cB cI cJ cZ h0 a cs1) H → va_D A (mW cB cI cJ cZ h0 a cs1) → va_S A s.heap H locs → lv_has ls 9 [(0, .ref h0), (1, .int u1), (2, .int u2)] → W p l e (headSpec (wsOf yX12_selectOf cX12_selectOf 9 (some .int)) ({ frames := n + 1 + 311, cells := 0, slots := 0, locals := 60 * (n + 1 + 311) } : Room)).room s m ([.ref h0] : List Value).toArray below meth c H locs 0 0 (MQ below (va_Qi (fun (x : Int32) (_ : Unit) => x = r9) (fun _ t_ => va_P (dC, dI) vwCl (mW cB cI cJ cZ h0 a cs9) t_.heap ∧ va_D A (mW cB cI cJ cZ h0 a cs9)) A) ([.ref h0] : List Value).toArray s 0 0 A) (F0 m 777 ls []) := by
    intro cs1 u1 u2 h H locs ls hP hD hS hl
    unfold m_selectOf_b777 at h
    refine lv_aload_n hx hb dX12_selectOf_777 rfl (lv_at hl 0 rfl) ?_
    refine lv_iload_n hx hb dX12_selectOf_778 rfl (lv_at hl 2 rfl) ?_
    refine fp_71 hx hb hts hown hK hP hD hS dX12_selectOf_779 (fun H locs hP hD hS => ?_)
    refine lv_iload_n hx hb dX12_selectOf_782 rfl (lv_at hl 1 rfl) ?_
    obtain ⟨e1, e2⟩ := Prod.mk.inj (Option.some.inj h)
    rw [e1] at hP hD
    exact W.iret (v := u1) hx hb hr (fun t_ ht hW => ⟨⟨u1, (), rfl, e2, by rw [ht]; exact hP, hD⟩, hS.F ht⟩) hS.2.2 dX12_selectOf_783
  have B_771 : ∀ (cs1 : RS) (u1 : Int32) (u2 : Int32) (y0 : Int32) (y1 : Int32), m_selectOf_b771 F T cs1 u1 u2 y0 y1 = some (cs9, r9) → ∀ (H : Heap) (locs : List Loc) (ls : Array Slot), va_P (dC, dI) vwCl (mW cB cI cJ cZ h0 a cs1) H → va_D A (mW cB cI cJ cZ h0 a cs1) → va_S A s.heap H locs → lv_has ls 9 [(0, .ref h0), (1, .int u1), (2, .int u2)] → W p l e (headSpec (wsOf yX12_selectOf cX12_selectOf 9 (some .int)) ({ frames := n + 1 + 311, cells := 0, slots := 0, locals := 60 * (n + 1 + 311) } : Room)).room s m ([.ref h0] : List Value).toArray below meth c H locs 0 0 (MQ below (va_Qi (fun (x : Int32) (_ : Unit) => x = r9) (fun _ t_ => va_P (dC, dI) vwCl (mW cB cI cJ cZ h0 a cs9) t_.heap ∧ va_D A (mW cB cI cJ cZ h0 a cs9)) A) ([.ref h0] : List Value).toArray s 0 0 A) (F0 m 771 ls [.int y0, .int y1, .ref (a 41)]) := by
    intro cs1 u1 u2 y0 y1 h H locs ls hP hD hS hl
    unfold m_selectOf_b771 at h
    obtain ⟨cs_1, hv_1, h⟩ := ob h
    refine ap_41 hx hb hK hP hD hS hv_1 dX12_selectOf_771 (fun H locs hP hD hS => ?_)
    refine lv_aload_n hx hb dX12_selectOf_772 rfl (lv_at hl 0 rfl) ?_
    refine lv_iconst (v := 0) hx hb dX12_selectOf_773 (by decide) ?_
    refine fp_72 hx hb hts hown hK hP hD hS (Or.inl rfl) dX12_selectOf_774 (fun H locs hP hD hS => ?_)
    exact B_777 (setF cs_1 72 0) u1 u2 h _ _ _ hP hD hS (lv_sub hl [0, 1, 2] rfl)
  have B_736 : ∀ (cs1 : RS) (u1 : Int32) (u2 : Int32), m_selectOf_b736 F T cs1 u1 u2 = some (cs9, r9) → ∀ (H : Heap) (locs : List Loc) (ls : Array Slot), va_P (dC, dI) vwCl (mW cB cI cJ cZ h0 a cs1) H → va_D A (mW cB cI cJ cZ h0 a cs1) → va_S A s.heap H locs → lv_has ls 9 [(0, .ref h0), (1, .int u1), (2, .int u2)] → W p l e (headSpec (wsOf yX12_selectOf cX12_selectOf 9 (some .int)) ({ frames := n + 1 + 311, cells := 0, slots := 0, locals := 60 * (n + 1 + 311) } : Room)).room s m ([.ref h0] : List Value).toArray below meth c H locs 0 0 (MQ below (va_Qi (fun (x : Int32) (_ : Unit) => x = r9) (fun _ t_ => va_P (dC, dI) vwCl (mW cB cI cJ cZ h0 a cs9) t_.heap ∧ va_D A (mW cB cI cJ cZ h0 a cs9)) A) ([.ref h0] : List Value).toArray s 0 0 A) (F0 m 736 ls []) := by
    intro cs1 u1 u2 h H locs ls hP hD hS hl
    unfold m_selectOf_b736 at h
    refine lv_aload_n hx hb dX12_selectOf_736 rfl (lv_at hl 0 rfl) ?_
    refine va_ldcSW (own := RX12) (index := 498) (tx := soT 34) (q := K 34) hx hb hown (hZ.ref 34 (by decide)) dX12_selectOf_737 ?_
    obtain ⟨z_2, hv_2, h⟩ := ob h
    refine calI (As := [.ref (K 34)]) hx hb hml hts hown hK hP hD hS hA hZ (s_takeWord l dC dI cB cI cJ cZ h0 a K V fz F cs1 34 (by decide) z_2.1 z_2.2 hv_2) (cw_takeWord hts (fr := 8) (by show 8 + 1 ≤ n + 1 + 311; omega) (by show 8 + (3 + 11) + 60 * (8) ≤ 60 * (n + 1 + 311); omega)) rfl hl.1 (Nat.le_of_ble_eq_true rfl) ⟨Nat.zero_le _, Nat.zero_le _⟩ dX12_selectOf_740 (fun H locs hP hD hS => ?_)
    refine lv_if_eq (tgt := 777) hx hb dX12_selectOf_743 (by decide) (fun c_3 => ?_) (fun c_3 => ?_)
    · skip
      replace h := (if_pos c_3).symm.trans h
      exact B_777 z_2.1 u1 u2 h _ _ _ hP hD hS (lv_sub hl [0, 1, 2] rfl)
    · skip
      replace h := (if_neg c_3).symm.trans h
      refine lv_aload_n hx hb dX12_selectOf_746 rfl (lv_at hl 0 rfl) ?_
      refine lv_iconst (v := 1) hx hb dX12_selectOf_747 (by decide) ?_
      refine fp_72 hx hb hts hown hK hP hD hS (Or.inr rfl) dX12_selectOf_748 (fun H locs hP hD hS => ?_)
      refine lv_aload_n hx hb dX12_selectOf_751 rfl (lv_at hl 0 rfl) ?_
      refine fg_41 hx hb hts hown hK hP dX12_selectOf_752 ?_
      refine lv_iload_n hx hb dX12_selectOf_755 rfl (lv_at hl 1 rfl) ?_
      refine lv_aload_n hx hb dX12_selectOf_756 rfl (lv_at hl 0 rfl) ?_
      refine fg_21 hx hb hts hown hK hP dX12_selectOf_757 ?_
      refine lv_if_eq (tgt := 770) hx hb dX12_selectOf_760 (by decide) (fun c_4 => ?_) (fun c_4 => ?_)
      · skip
        replace h := (if_pos c_4).symm.trans h
        refine lv_iconst (v := 0) hx hb dX12_selectOf_770 (by decide) ?_
        exact B_771 (setF z_2.1 72 1) u1 u2 0 u1 h _ _ _ hP hD hS (lv_sub hl [0, 1, 2] rfl)
      · skip
        replace h := (if_neg c_4).symm.trans h
        refine lv_aload_n hx hb dX12_selectOf_763 rfl (lv_at hl 0 rfl) ?_
        obtain ⟨z_5, hv_5, h⟩ := ob h
        refine calI (As := []) hx hb hml hts hown hK hP hD hS hA hZ (s_expr l dC dI cB cI cJ cZ h0 a K V fz F 300 (setF z_2.1 72 1)  z_5.1 z_5.2 hv_5) (cw_expr hts (fr := 310) (by show 310 + 1 ≤ n + 1 + 311; omega) (by show 8 + (5 + 11) + 60 * (310) ≤ 60 * (n + 1 + 311); omega)) rfl hl.1 (Nat.le_of_ble_eq_true rfl) ⟨Nat.zero_le _, Nat.zero_le _⟩ dX12_selectOf_764 (fun H locs hP hD hS => ?_)
        refine lv_goto (tgt := 771) hx hb dX12_selectOf_767 (by decide) ?_
        exact B_771 z_5.1 u1 u2 z_5.2 u1 h _ _ _ hP hD hS (lv_sub hl [0, 1, 2] rfl)
  have L_589 : ∀ (lf_589 : Nat), ∀ (cs1 : RS) (u1 : Int32) (u2 : Int32) (u4 : Int32), m_selectOf_L589 F T lf_589 cs1 u1 u2 u4 = some (cs9, r9) → ∀ (H : Heap) (locs : List Loc) (ls : Array Slot), va_P (dC, dI) vwCl (mW cB cI cJ cZ h0 a cs1) H → va_D A (mW cB cI cJ cZ h0 a cs1) → va_S A s.heap H locs → lv_has ls 9 [(0, .ref h0), (1, .int u1), (2, .int u2), (4, .int u4)] → W p l e (headSpec (wsOf yX12_selectOf cX12_selectOf 9 (some .int)) ({ frames := n + 1 + 311, cells := 0, slots := 0, locals := 60 * (n + 1 + 311) } : Room)).room s m ([.ref h0] : List Value).toArray below meth c H locs 0 0 (MQ below (va_Qi (fun (x : Int32) (_ : Unit) => x = r9) (fun _ t_ => va_P (dC, dI) vwCl (mW cB cI cJ cZ h0 a cs9) t_.heap ∧ va_D A (mW cB cI cJ cZ h0 a cs9)) A) ([.ref h0] : List Value).toArray s 0 0 A) (F0 m 589 ls []) := by
    intro lf_589
    induction lf_589 with
    | zero => intro cs1 u1 u2 u4 h; cases (show (none : Option (RS × Int32)) = _ from h)
    | succ lf_589 ih_589 =>
      have B_725 : ∀ (cs1 : RS) (u1 : Int32) (u2 : Int32), m_selectOf_b725 F T (m_selectOf_L589 F T lf_589) cs1 u1 u2 = some (cs9, r9) → ∀ (H : Heap) (locs : List Loc) (ls : Array Slot), va_P (dC, dI) vwCl (mW cB cI cJ cZ h0 a cs1) H → va_D A (mW cB cI cJ cZ h0 a cs1) → va_S A s.heap H locs → lv_has ls 9 [(0, .ref h0), (1, .int u1), (2, .int u2)] → W p l e (headSpec (wsOf yX12_selectOf cX12_selectOf 9 (some .int)) ({ frames := n + 1 + 311, cells := 0, slots := 0, locals := 60 * (n + 1 + 311) } : Room)).room s m ([.ref h0] : List Value).toArray below meth c H locs 0 0 (MQ below (va_Qi (fun (x : Int32) (_ : Unit) => x = r9) (fun _ t_ => va_P (dC, dI) vwCl (mW cB cI cJ cZ h0 a cs9) t_.heap ∧ va_D A (mW cB cI cJ cZ h0 a cs9)) A) ([.ref h0] : List Value).toArray s 0 0 A) (F0 m 725 ls []) := by
        intro cs1 u1 u2 h H locs ls hP hD hS hl
        unfold m_selectOf_b725 at h
        refine lv_aload_n hx hb dX12_selectOf_725 rfl (lv_at hl 0 rfl) ?_
        refine lv_bipush (v := 44) hx hb dX12_selectOf_726 (by decide) ?_
        obtain ⟨z_6, hv_6, h⟩ := ob h
        refine calI (As := [.int 44]) hx hb hml hts hown hK hP hD hS hA hZ (s_takeSign l dC dI cB cI cJ cZ h0 a K V fz F cs1 44 z_6.1 z_6.2 hv_6) (cw_takeSign hts (fr := 1) (by show 1 + 1 ≤ n + 1 + 311; omega) (by show 8 + (3 + 11) + 60 * (1) ≤ 60 * (n + 1 + 311); omega)) rfl hl.1 (Nat.le_of_ble_eq_true rfl) ⟨Nat.zero_le _, Nat.zero_le _⟩ dX12_selectOf_728 (fun H locs hP hD hS => ?_)
        refine lv_istore (lv' := [(4, .int z_6.2), (0, .ref h0), (1, .int u1), (2, .int u2)]) hx hb dX12_selectOf_731 hl (by decide) rfl (fun ls hl => ?_)
        refine lv_goto (tgt := 589) hx hb dX12_selectOf_733 (by decide) ?_
        exact ih_589 z_6.1 u1 u2 z_6.2 h _ _ _ hP hD hS (lv_sub hl [1, 2, 3, 0] rfl)
      have B_678 : ∀ (cs1 : RS) (u1 : Int32) (u2 : Int32) (u5 : Int32) (u6 : Int32) (y0 : Int32), m_selectOf_b678 F T (m_selectOf_L589 F T lf_589) cs1 u1 u2 u5 u6 y0 = some (cs9, r9) → ∀ (H : Heap) (locs : List Loc) (ls : Array Slot), va_P (dC, dI) vwCl (mW cB cI cJ cZ h0 a cs1) H → va_D A (mW cB cI cJ cZ h0 a cs1) → va_S A s.heap H locs → lv_has ls 9 [(0, .ref h0), (1, .int u1), (2, .int u2), (5, .int u5), (6, .int u6)] → W p l e (headSpec (wsOf yX12_selectOf cX12_selectOf 9 (some .int)) ({ frames := n + 1 + 311, cells := 0, slots := 0, locals := 60 * (n + 1 + 311) } : Room)).room s m ([.ref h0] : List Value).toArray below meth c H locs 0 0 (MQ below (va_Qi (fun (x : Int32) (_ : Unit) => x = r9) (fun _ t_ => va_P (dC, dI) vwCl (mW cB cI cJ cZ h0 a cs9) t_.heap ∧ va_D A (mW cB cI cJ cZ h0 a cs9)) A) ([.ref h0] : List Value).toArray s 0 0 A) (F0 m 678 ls [.int y0]) := by
        intro cs1 u1 u2 u5 u6 y0 h H locs ls hP hD hS hl
        unfold m_selectOf_b678 at h
        refine lv_istore (lv' := [(7, .int y0), (0, .ref h0), (1, .int u1), (2, .int u2), (5, .int u5), (6, .int u6)]) hx hb dX12_selectOf_678 hl (by decide) rfl (fun ls hl => ?_)
        refine lv_aload_n hx hb dX12_selectOf_680 rfl (lv_at hl 1 rfl) ?_
        refine fg_21 hx hb hts hown hK hP dX12_selectOf_681 ?_
        refine lv_if_eq (tgt := 725) hx hb dX12_selectOf_684 (by decide) (fun c_7 => ?_) (fun c_7 => ?_)
        · skip
          replace h := (if_pos c_7).symm.trans h
          exact B_725 cs1 u1 u2 h _ _ _ hP hD hS (lv_sub hl [1, 2, 3] rfl)
        · skip
          replace h := (if_neg c_7).symm.trans h
          refine lv_aload_n hx hb dX12_selectOf_687 rfl (lv_at hl 1 rfl) ?_
          refine fg_47 hx hb hts hown hK hP dX12_selectOf_688 ?_
          refine lv_bipush (v := 8) hx hb dX12_selectOf_691 (by decide) ?_
          refine lv_iload_n hx hb dX12_selectOf_693 rfl (lv_at hl 2 rfl) ?_
          refine lv_imul hx hb dX12_selectOf_694 ?_
          refine lv_iload hx hb dX12_selectOf_695 (lv_at hl 4 rfl) ?_
          refine lv_iadd hx hb dX12_selectOf_697 ?_
          refine lv_iload hx hb dX12_selectOf_698 (lv_at hl 5 rfl) ?_
          obtain ⟨cs_8, hv_8, h⟩ := ob h
          refine ap_47 hx hb hK hP hD hS hv_8 dX12_selectOf_700 (fun H locs hP hD hS => ?_)
          refine lv_aload_n hx hb dX12_selectOf_701 rfl (lv_at hl 1 rfl) ?_
          refine fg_48 hx hb hts hown hK hP dX12_selectOf_702 ?_
          refine lv_bipush (v := 8) hx hb dX12_selectOf_705 (by decide) ?_
          refine lv_iload_n hx hb dX12_selectOf_707 rfl (lv_at hl 2 rfl) ?_
          refine lv_imul hx hb dX12_selectOf_708 ?_
          refine lv_iload hx hb dX12_selectOf_709 (lv_at hl 4 rfl) ?_
          refine lv_iadd hx hb dX12_selectOf_711 ?_
          refine lv_iload hx hb dX12_selectOf_712 (lv_at hl 0 rfl) ?_
          obtain ⟨cs_9, hv_9, h⟩ := ob h
          refine ap_48 hx hb hK hP hD hS hv_9 dX12_selectOf_714 (fun H locs hP hD hS => ?_)
          refine lv_aload_n hx hb dX12_selectOf_715 rfl (lv_at hl 1 rfl) ?_
          refine fg_39 hx hb hts hown hK hP dX12_selectOf_716 ?_
          refine lv_iload_n hx hb dX12_selectOf_719 rfl (lv_at hl 2 rfl) ?_
          refine lv_dup2_11 hx hb dX12_selectOf_720 rfl rfl ?_
          obtain ⟨v_10, hv_10, h⟩ := ob h
          refine ag_39 hx hb hK hP hv_10 dX12_selectOf_721 ?_
          refine lv_iconst (v := 1) hx hb dX12_selectOf_722 (by decide) ?_
          refine lv_iadd hx hb dX12_selectOf_723 ?_
          obtain ⟨cs_11, hv_11, h⟩ := ob h
          refine ap_39 hx hb hK hP hD hS hv_11 dX12_selectOf_724 (fun H locs hP hD hS => ?_)
          exact B_725 cs_11 u1 u2 h _ _ _ hP hD hS (lv_sub hl [1, 2, 3] rfl)
      have B_654 : ∀ (cs1 : RS) (u1 : Int32) (u2 : Int32) (u5 : Int32) (y0 : Int32), m_selectOf_b654 F T (m_selectOf_L589 F T lf_589) cs1 u1 u2 u5 y0 = some (cs9, r9) → ∀ (H : Heap) (locs : List Loc) (ls : Array Slot), va_P (dC, dI) vwCl (mW cB cI cJ cZ h0 a cs1) H → va_D A (mW cB cI cJ cZ h0 a cs1) → va_S A s.heap H locs → lv_has ls 9 [(0, .ref h0), (1, .int u1), (2, .int u2), (5, .int u5)] → W p l e (headSpec (wsOf yX12_selectOf cX12_selectOf 9 (some .int)) ({ frames := n + 1 + 311, cells := 0, slots := 0, locals := 60 * (n + 1 + 311) } : Room)).room s m ([.ref h0] : List Value).toArray below meth c H locs 0 0 (MQ below (va_Qi (fun (x : Int32) (_ : Unit) => x = r9) (fun _ t_ => va_P (dC, dI) vwCl (mW cB cI cJ cZ h0 a cs9) t_.heap ∧ va_D A (mW cB cI cJ cZ h0 a cs9)) A) ([.ref h0] : List Value).toArray s 0 0 A) (F0 m 654 ls [.int y0]) := by
        intro cs1 u1 u2 u5 y0 h H locs ls hP hD hS hl
        unfold m_selectOf_b654 at h
        refine lv_istore (lv' := [(6, .int y0), (0, .ref h0), (1, .int u1), (2, .int u2), (5, .int u5)]) hx hb dX12_selectOf_654 hl (by decide) rfl (fun ls hl => ?_)
        refine lv_aload_n hx hb dX12_selectOf_656 rfl (lv_at hl 1 rfl) ?_
        refine va_ldcSW (own := RX12) (index := 482) (tx := soT 25) (q := K 25) hx hb hown (hZ.ref 25 (by decide)) dX12_selectOf_657 ?_
        obtain ⟨cs_12, hv_12, h⟩ := ob h
        refine calV (As := [.ref (K 25)]) hx hb hml hts hown hK hP hD hS hA hZ (s_needWord l dC dI cB cI cJ cZ h0 a K V fz F cs1 25 (by decide) cs_12 hv_12) (cw_needWord hts (fr := 9) (by show 9 + 1 ≤ n + 1 + 311; omega) (by show 8 + (2 + 11) + 60 * (9) ≤ 60 * (n + 1 + 311); omega)) rfl hl.1 (Nat.le_of_ble_eq_true rfl) ⟨Nat.zero_le _, Nat.zero_le _⟩ dX12_selectOf_660 (fun H locs hP hD hS => ?_)
        refine lv_aload_n hx hb dX12_selectOf_663 rfl (lv_at hl 1 rfl) ?_
        refine fg_21 hx hb hts hown hK hP dX12_selectOf_664 ?_
        refine lv_if_eq (tgt := 677) hx hb dX12_selectOf_667 (by decide) (fun c_13 => ?_) (fun c_13 => ?_)
        · skip
          replace h := (if_pos c_13).symm.trans h
          refine lv_iconst (v := 0) hx hb dX12_selectOf_677 (by decide) ?_
          exact B_678 cs_12 u1 u2 u5 y0 0 h _ _ _ hP hD hS (lv_sub hl [1, 2, 3, 4, 0] rfl)
        · skip
          replace h := (if_neg c_13).symm.trans h
          refine lv_aload_n hx hb dX12_selectOf_670 rfl (lv_at hl 1 rfl) ?_
          obtain ⟨z_14, hv_14, h⟩ := ob h
          refine calI (As := []) hx hb hml hts hown hK hP hD hS hA hZ (s_name l dC dI cB cI cJ cZ h0 a K V fz F cs_12  z_14.1 z_14.2 hv_14) (cw_name hts (fr := 8) (by show 8 + 1 ≤ n + 1 + 311; omega) (by show 8 + (1 + 11) + 60 * (8) ≤ 60 * (n + 1 + 311); omega)) rfl hl.1 (Nat.le_of_ble_eq_true rfl) ⟨Nat.zero_le _, Nat.zero_le _⟩ dX12_selectOf_671 (fun H locs hP hD hS => ?_)
          refine lv_goto (tgt := 678) hx hb dX12_selectOf_674 (by decide) ?_
          exact B_678 z_14.1 u1 u2 u5 y0 z_14.2 h _ _ _ hP hD hS (lv_sub hl [1, 2, 3, 4, 0] rfl)
      have B_639 : ∀ (cs1 : RS) (u1 : Int32) (u2 : Int32) (u5 : Int32), m_selectOf_b639 F T (m_selectOf_L589 F T lf_589) cs1 u1 u2 u5 = some (cs9, r9) → ∀ (H : Heap) (locs : List Loc) (ls : Array Slot), va_P (dC, dI) vwCl (mW cB cI cJ cZ h0 a cs1) H → va_D A (mW cB cI cJ cZ h0 a cs1) → va_S A s.heap H locs → lv_has ls 9 [(0, .ref h0), (1, .int u1), (2, .int u2), (5, .int u5)] → W p l e (headSpec (wsOf yX12_selectOf cX12_selectOf 9 (some .int)) ({ frames := n + 1 + 311, cells := 0, slots := 0, locals := 60 * (n + 1 + 311) } : Room)).room s m ([.ref h0] : List Value).toArray below meth c H locs 0 0 (MQ below (va_Qi (fun (x : Int32) (_ : Unit) => x = r9) (fun _ t_ => va_P (dC, dI) vwCl (mW cB cI cJ cZ h0 a cs9) t_.heap ∧ va_D A (mW cB cI cJ cZ h0 a cs9)) A) ([.ref h0] : List Value).toArray s 0 0 A) (F0 m 639 ls []) := by
        intro cs1 u1 u2 u5 h H locs ls hP hD hS hl
        unfold m_selectOf_b639 at h
        refine lv_aload_n hx hb dX12_selectOf_639 rfl (lv_at hl 0 rfl) ?_
        refine fg_21 hx hb hts hown hK hP dX12_selectOf_640 ?_
        refine lv_if_eq (tgt := 653) hx hb dX12_selectOf_643 (by decide) (fun c_15 => ?_) (fun c_15 => ?_)
        · skip
          replace h := (if_pos c_15).symm.trans h
          refine lv_iconst (v := 0) hx hb dX12_selectOf_653 (by decide) ?_
          exact B_654 cs1 u1 u2 u5 0 h _ _ _ hP hD hS (lv_sub hl [0, 1, 2, 3] rfl)
        · skip
          replace h := (if_neg c_15).symm.trans h
          refine lv_aload_n hx hb dX12_selectOf_646 rfl (lv_at hl 0 rfl) ?_
          obtain ⟨z_16, hv_16, h⟩ := ob h
          refine calI (As := []) hx hb hml hts hown hK hP hD hS hA hZ (s_expr l dC dI cB cI cJ cZ h0 a K V fz F 300 cs1  z_16.1 z_16.2 hv_16) (cw_expr hts (fr := 310) (by show 310 + 1 ≤ n + 1 + 311; omega) (by show 8 + (5 + 11) + 60 * (310) ≤ 60 * (n + 1 + 311); omega)) rfl hl.1 (Nat.le_of_ble_eq_true rfl) ⟨Nat.zero_le _, Nat.zero_le _⟩ dX12_selectOf_647 (fun H locs hP hD hS => ?_)
          refine lv_goto (tgt := 654) hx hb dX12_selectOf_650 (by decide) ?_
          exact B_654 z_16.1 u1 u2 u5 z_16.2 h _ _ _ hP hD hS (lv_sub hl [0, 1, 2, 3] rfl)
      intro cs1 u1 u2 u4 h H locs ls hP hD hS hl
      rw [m_selectOf_L589] at h
      refine lv_iload hx hb dX12_selectOf_589 (lv_at hl 3 rfl) ?_
      refine lv_if_eq (tgt := 736) hx hb dX12_selectOf_591 (by decide) (fun c_17 => ?_) (fun c_17 => ?_)
      · skip
        replace h := (if_pos c_17).symm.trans h
        exact B_736 cs1 u1 u2 h _ _ _ hP hD hS (lv_sub hl [0, 1, 2] rfl)
      · skip
        replace h := (if_neg c_17).symm.trans h
        refine lv_aload_n hx hb dX12_selectOf_594 rfl (lv_at hl 0 rfl) ?_
        refine fg_21 hx hb hts hown hK hP dX12_selectOf_595 ?_
        refine lv_if_eq (tgt := 736) hx hb dX12_selectOf_598 (by decide) (fun c_18 => ?_) (fun c_18 => ?_)
        · skip
          replace h := (if_pos c_18).symm.trans h
          exact B_736 cs1 u1 u2 h _ _ _ hP hD hS (lv_sub hl [0, 1, 2] rfl)
        · skip
          replace h := (if_neg c_18).symm.trans h
          refine lv_aload_n hx hb dX12_selectOf_601 rfl (lv_at hl 0 rfl) ?_
          refine fg_39 hx hb hts hown hK hP dX12_selectOf_602 ?_
          refine lv_iload_n hx hb dX12_selectOf_605 rfl (lv_at hl 1 rfl) ?_
          obtain ⟨v_19, hv_19, h⟩ := ob h
          refine ag_39 hx hb hK hP hv_19 dX12_selectOf_606 ?_
          refine lv_istore (lv' := [(5, .int v_19), (0, .ref h0), (1, .int u1), (2, .int u2), (4, .int u4)]) hx hb dX12_selectOf_607 hl (by decide) rfl (fun ls hl => ?_)
          refine lv_iload hx hb dX12_selectOf_609 (lv_at hl 0 rfl) ?_
          refine lv_bipush (v := 8) hx hb dX12_selectOf_611 (by decide) ?_
          refine lv_icmp_ne (tgt := 639) hx hb dX12_selectOf_613 (by decide) (fun c_20 => ?_) (fun c_20 => ?_)
          · skip
            replace h := (if_neg c_20).symm.trans h
            exact B_639 cs1 u1 u2 v_19 h _ _ _ hP hD hS (lv_sub hl [1, 2, 3, 0] rfl)
          · skip
            replace h := (if_pos c_20).symm.trans h
            refine lv_aload_n hx hb dX12_selectOf_616 rfl (lv_at hl 1 rfl) ?_
            refine lv_iconst (v := 0) hx hb dX12_selectOf_617 (by decide) ?_
            obtain ⟨v_21, hv_21, h⟩ := ob h
            refine calI (As := [.int 0]) hx hb hml hts hown hK hP hD hS hA hZ (s_begins l dC dI cB cI cJ cZ h0 a K V fz F cs1 0 v_21 hv_21) (cw_begins hts (fr := 7) (by show 7 + 1 ≤ n + 1 + 311; omega) (by show 8 + (5 + 11) + 60 * (7) ≤ 60 * (n + 1 + 311); omega)) rfl hl.1 (Nat.le_of_ble_eq_true rfl) ⟨Nat.zero_le _, Nat.zero_le _⟩ dX12_selectOf_618 (fun H locs hP hD hS => ?_)
            refine lv_if_eq (tgt := 639) hx hb dX12_selectOf_621 (by decide) (fun c_22 => ?_) (fun c_22 => ?_)
            · skip
              replace h := (if_pos c_22).symm.trans h
              exact B_639 cs1 u1 u2 v_19 h _ _ _ hP hD hS (lv_sub hl [1, 2, 3, 0] rfl)
            · skip
              replace h := (if_neg c_22).symm.trans h
              refine lv_aload_n hx hb dX12_selectOf_624 rfl (lv_at hl 1 rfl) ?_
              refine lv_bipush (v := 7) hx hb dX12_selectOf_625 (by decide) ?_
              refine lv_aload_n hx hb dX12_selectOf_627 rfl (lv_at hl 1 rfl) ?_
              refine fg_15 hx hb hts hown hK hP dX12_selectOf_628 ?_
              refine lv_aload_n hx hb dX12_selectOf_631 rfl (lv_at hl 1 rfl) ?_
              refine fg_18 hx hb hts hown hK hP dX12_selectOf_632 ?_
              obtain ⟨v_23, hv_23, h⟩ := ob h
              refine ag_15 hx hb hK hP hv_23 dX12_selectOf_635 ?_
              obtain ⟨cs_24, hv_24, h⟩ := ob h
              refine calV (As := [.int 7, .int v_23]) hx hb hml hts hown hK hP hD hS hA hZ (s_tell l dC dI cB cI cJ cZ h0 a K V fz F cs1 7 v_23 cs_24 hv_24) (cw_tell hts (fr := 0) (by show 0 + 1 ≤ n + 1 + 311; omega) (by show 8 + (3 + 11) + 60 * (0) ≤ 60 * (n + 1 + 311); omega)) rfl hl.1 (Nat.le_of_ble_eq_true rfl) ⟨Nat.zero_le _, Nat.zero_le _⟩ dX12_selectOf_636 (fun H locs hP hD hS => ?_)
              exact B_639 cs_24 u1 u2 v_19 h _ _ _ hP hD hS (lv_sub hl [1, 2, 3, 0] rfl)
  have B_544 : ∀ (cs1 : RS) (u1 : Int32) (u2 : Int32), m_selectOf_b544 F T cs1 u1 u2 = some (cs9, r9) → ∀ (H : Heap) (locs : List Loc) (ls : Array Slot), va_P (dC, dI) vwCl (mW cB cI cJ cZ h0 a cs1) H → va_D A (mW cB cI cJ cZ h0 a cs1) → va_S A s.heap H locs → lv_has ls 9 [(0, .ref h0), (1, .int u1), (2, .int u2)] → W p l e (headSpec (wsOf yX12_selectOf cX12_selectOf 9 (some .int)) ({ frames := n + 1 + 311, cells := 0, slots := 0, locals := 60 * (n + 1 + 311) } : Room)).room s m ([.ref h0] : List Value).toArray below meth c H locs 0 0 (MQ below (va_Qi (fun (x : Int32) (_ : Unit) => x = r9) (fun _ t_ => va_P (dC, dI) vwCl (mW cB cI cJ cZ h0 a cs9) t_.heap ∧ va_D A (mW cB cI cJ cZ h0 a cs9)) A) ([.ref h0] : List Value).toArray s 0 0 A) (F0 m 544 ls []) := by
    intro cs1 u1 u2 h H locs ls hP hD hS hl
    unfold m_selectOf_b544 at h
    refine lv_aload_n hx hb dX12_selectOf_544 rfl (lv_at hl 0 rfl) ?_
    refine va_ldcSW (own := RX12) (index := 497) (tx := soT 32) (q := K 32) hx hb hown (hZ.ref 32 (by decide)) dX12_selectOf_545 ?_
    obtain ⟨v_25, hv_25, h⟩ := ob h
    refine calI (As := [.ref (K 32)]) hx hb hml hts hown hK hP hD hS hA hZ (s_isWord l dC dI cB cI cJ cZ h0 a K V fz F cs1 32 (by decide) v_25 hv_25) (cw_isWord hts (fr := 7) (by show 7 + 1 ≤ n + 1 + 311; omega) (by show 8 + (2 + 11) + 60 * (7) ≤ 60 * (n + 1 + 311); omega)) rfl hl.1 (Nat.le_of_ble_eq_true rfl) ⟨Nat.zero_le _, Nat.zero_le _⟩ dX12_selectOf_548 (fun H locs hP hD hS => ?_)
    refine lv_if_eq (tgt := 736) hx hb dX12_selectOf_551 (by decide) (fun c_26 => ?_) (fun c_26 => ?_)
    · skip
      replace h := (if_pos c_26).symm.trans h
      exact B_736 cs1 u1 u2 h _ _ _ hP hD hS (lv_sub hl [0, 1, 2] rfl)
    · skip
      replace h := (if_neg c_26).symm.trans h
      refine lv_aload_n hx hb dX12_selectOf_554 rfl (lv_at hl 0 rfl) ?_
      refine fg_40 hx hb hts hown hK hP dX12_selectOf_555 ?_
      refine lv_iload_n hx hb dX12_selectOf_558 rfl (lv_at hl 1 rfl) ?_
      refine lv_aload_n hx hb dX12_selectOf_559 rfl (lv_at hl 0 rfl) ?_
      refine fg_15 hx hb hts hown hK hP dX12_selectOf_560 ?_
      refine lv_aload_n hx hb dX12_selectOf_563 rfl (lv_at hl 0 rfl) ?_
      refine fg_18 hx hb hts hown hK hP dX12_selectOf_564 ?_
      obtain ⟨v_27, hv_27, h⟩ := ob h
      refine ag_15 hx hb hK hP hv_27 dX12_selectOf_567 ?_
      obtain ⟨cs_28, hv_28, h⟩ := ob h
      refine ap_40 hx hb hK hP hD hS hv_28 dX12_selectOf_568 (fun H locs hP hD hS => ?_)
      refine lv_aload_n hx hb dX12_selectOf_569 rfl (lv_at hl 0 rfl) ?_
      refine lv_dup hx hb dX12_selectOf_570 rfl ?_
      refine fg_18 hx hb hts hown hK hP dX12_selectOf_571 ?_
      refine lv_iconst (v := 1) hx hb dX12_selectOf_574 (by decide) ?_
      refine lv_iadd hx hb dX12_selectOf_575 ?_
      refine fp_18 hx hb hts hown hK hP hD hS dX12_selectOf_576 (fun H locs hP hD hS => ?_)
      refine lv_aload_n hx hb dX12_selectOf_579 rfl (lv_at hl 0 rfl) ?_
      refine va_ldcSW (own := RX12) (index := 468) (tx := soT 33) (q := K 33) hx hb hown (hZ.ref 33 (by decide)) dX12_selectOf_580 ?_
      obtain ⟨cs_29, hv_29, h⟩ := ob h
      refine calV (As := [.ref (K 33)]) hx hb hml hts hown hK hP hD hS hA hZ (s_needWord l dC dI cB cI cJ cZ h0 a K V fz F (setF cs_28 18 ((cs_28.1 18) + 1)) 33 (by decide) cs_29 hv_29) (cw_needWord hts (fr := 9) (by show 9 + 1 ≤ n + 1 + 311; omega) (by show 8 + (2 + 11) + 60 * (9) ≤ 60 * (n + 1 + 311); omega)) rfl hl.1 (Nat.le_of_ble_eq_true rfl) ⟨Nat.zero_le _, Nat.zero_le _⟩ dX12_selectOf_583 (fun H locs hP hD hS => ?_)
      refine lv_iconst (v := 1) hx hb dX12_selectOf_586 (by decide) ?_
      refine lv_istore (lv' := [(4, .int 1), (0, .ref h0), (1, .int u1), (2, .int u2)]) hx hb dX12_selectOf_587 hl (by decide) rfl (fun ls hl => ?_)
      exact L_589 F cs_29 u1 u2 1 h _ _ _ hP hD hS (lv_sub hl [1, 2, 3, 0] rfl)
  have B_543 : ∀ (cs1 : RS) (u1 : Int32) (u2 : Int32) (y0 : Int32) (y1 : Int32), m_selectOf_b543 F T cs1 u1 u2 y0 y1 = some (cs9, r9) → ∀ (H : Heap) (locs : List Loc) (ls : Array Slot), va_P (dC, dI) vwCl (mW cB cI cJ cZ h0 a cs1) H → va_D A (mW cB cI cJ cZ h0 a cs1) → va_S A s.heap H locs → lv_has ls 9 [(0, .ref h0), (1, .int u1), (2, .int u2)] → W p l e (headSpec (wsOf yX12_selectOf cX12_selectOf 9 (some .int)) ({ frames := n + 1 + 311, cells := 0, slots := 0, locals := 60 * (n + 1 + 311) } : Room)).room s m ([.ref h0] : List Value).toArray below meth c H locs 0 0 (MQ below (va_Qi (fun (x : Int32) (_ : Unit) => x = r9) (fun _ t_ => va_P (dC, dI) vwCl (mW cB cI cJ cZ h0 a cs9) t_.heap ∧ va_D A (mW cB cI cJ cZ h0 a cs9)) A) ([.ref h0] : List Value).toArray s 0 0 A) (F0 m 543 ls [.int y0, .int y1, .ref (a 38)]) := by
    intro cs1 u1 u2 y0 y1 h H locs ls hP hD hS hl
    unfold m_selectOf_b543 at h
    obtain ⟨cs_30, hv_30, h⟩ := ob h
    refine ap_38 hx hb hK hP hD hS hv_30 dX12_selectOf_543 (fun H locs hP hD hS => ?_)
    exact B_544 cs_30 u1 u2 h _ _ _ hP hD hS (lv_sub hl [0, 1, 2] rfl)
  have B_503 : ∀ (cs1 : RS) (u1 : Int32) (u2 : Int32), m_selectOf_b503 F T cs1 u1 u2 = some (cs9, r9) → ∀ (H : Heap) (locs : List Loc) (ls : Array Slot), va_P (dC, dI) vwCl (mW cB cI cJ cZ h0 a cs1) H → va_D A (mW cB cI cJ cZ h0 a cs1) → va_S A s.heap H locs → lv_has ls 9 [(0, .ref h0), (1, .int u1), (2, .int u2)] → W p l e (headSpec (wsOf yX12_selectOf cX12_selectOf 9 (some .int)) ({ frames := n + 1 + 311, cells := 0, slots := 0, locals := 60 * (n + 1 + 311) } : Room)).room s m ([.ref h0] : List Value).toArray below meth c H locs 0 0 (MQ below (va_Qi (fun (x : Int32) (_ : Unit) => x = r9) (fun _ t_ => va_P (dC, dI) vwCl (mW cB cI cJ cZ h0 a cs9) t_.heap ∧ va_D A (mW cB cI cJ cZ h0 a cs9)) A) ([.ref h0] : List Value).toArray s 0 0 A) (F0 m 503 ls []) := by
    intro cs1 u1 u2 h H locs ls hP hD hS hl
    unfold m_selectOf_b503 at h
    refine lv_aload_n hx hb dX12_selectOf_503 rfl (lv_at hl 0 rfl) ?_
    refine lv_iload_n hx hb dX12_selectOf_504 rfl (lv_at hl 1 rfl) ?_
    refine fp_71 hx hb hts hown hK hP hD hS dX12_selectOf_505 (fun H locs hP hD hS => ?_)
    refine lv_aload_n hx hb dX12_selectOf_508 rfl (lv_at hl 0 rfl) ?_
    refine lv_iconst (v := 0) hx hb dX12_selectOf_509 (by decide) ?_
    refine fp_72 hx hb hts hown hK hP hD hS (Or.inl rfl) dX12_selectOf_510 (fun H locs hP hD hS => ?_)
    refine lv_aload_n hx hb dX12_selectOf_513 rfl (lv_at hl 0 rfl) ?_
    refine va_ldcSW (own := RX12) (index := 495) (tx := soT 31) (q := K 31) hx hb hown (hZ.ref 31 (by decide)) dX12_selectOf_514 ?_
    obtain ⟨z_31, hv_31, h⟩ := ob h
    refine calI (As := [.ref (K 31)]) hx hb hml hts hown hK hP hD hS hA hZ (s_takeWord l dC dI cB cI cJ cZ h0 a K V fz F (setF (setF cs1 71 u1) 72 0) 31 (by decide) z_31.1 z_31.2 hv_31) (cw_takeWord hts (fr := 8) (by show 8 + 1 ≤ n + 1 + 311; omega) (by show 8 + (3 + 11) + 60 * (8) ≤ 60 * (n + 1 + 311); omega)) rfl hl.1 (Nat.le_of_ble_eq_true rfl) ⟨Nat.zero_le _, Nat.zero_le _⟩ dX12_selectOf_517 (fun H locs hP hD hS => ?_)
    refine lv_if_eq (tgt := 544) hx hb dX12_selectOf_520 (by decide) (fun c_32 => ?_) (fun c_32 => ?_)
    · skip
      replace h := (if_pos c_32).symm.trans h
      exact B_544 z_31.1 u1 u2 h _ _ _ hP hD hS (lv_sub hl [0, 1, 2] rfl)
    · skip
      replace h := (if_neg c_32).symm.trans h
      refine lv_aload_n hx hb dX12_selectOf_523 rfl (lv_at hl 0 rfl) ?_
      refine fg_38 hx hb hts hown hK hP dX12_selectOf_524 ?_
      refine lv_iload_n hx hb dX12_selectOf_527 rfl (lv_at hl 1 rfl) ?_
      refine lv_aload_n hx hb dX12_selectOf_528 rfl (lv_at hl 0 rfl) ?_
      refine fg_21 hx hb hts hown hK hP dX12_selectOf_529 ?_
      refine lv_if_eq (tgt := 542) hx hb dX12_selectOf_532 (by decide) (fun c_33 => ?_) (fun c_33 => ?_)
      · skip
        replace h := (if_pos c_33).symm.trans h
        refine lv_iconst (v := 0) hx hb dX12_selectOf_542 (by decide) ?_
        exact B_543 z_31.1 u1 u2 0 u1 h _ _ _ hP hD hS (lv_sub hl [0, 1, 2] rfl)
      · skip
        replace h := (if_neg c_33).symm.trans h
        refine lv_aload_n hx hb dX12_selectOf_535 rfl (lv_at hl 0 rfl) ?_
        obtain ⟨z_34, hv_34, h⟩ := ob h
        refine calI (As := []) hx hb hml hts hown hK hP hD hS hA hZ (s_expr l dC dI cB cI cJ cZ h0 a K V fz F 300 z_31.1  z_34.1 z_34.2 hv_34) (cw_expr hts (fr := 310) (by show 310 + 1 ≤ n + 1 + 311; omega) (by show 8 + (5 + 11) + 60 * (310) ≤ 60 * (n + 1 + 311); omega)) rfl hl.1 (Nat.le_of_ble_eq_true rfl) ⟨Nat.zero_le _, Nat.zero_le _⟩ dX12_selectOf_536 (fun H locs hP hD hS => ?_)
        refine lv_goto (tgt := 543) hx hb dX12_selectOf_539 (by decide) ?_
        exact B_543 z_34.1 u1 u2 z_34.2 u1 h _ _ _ hP hD hS (lv_sub hl [0, 1, 2] rfl)
  have L_375 : ∀ (lf_375 : Nat), ∀ (cs1 : RS) (u1 : Int32) (u2 : Int32), m_selectOf_L375 F T lf_375 cs1 u1 u2 = some (cs9, r9) → ∀ (H : Heap) (locs : List Loc) (ls : Array Slot), va_P (dC, dI) vwCl (mW cB cI cJ cZ h0 a cs1) H → va_D A (mW cB cI cJ cZ h0 a cs1) → va_S A s.heap H locs → lv_has ls 9 [(0, .ref h0), (1, .int u1), (2, .int u2)] → W p l e (headSpec (wsOf yX12_selectOf cX12_selectOf 9 (some .int)) ({ frames := n + 1 + 311, cells := 0, slots := 0, locals := 60 * (n + 1 + 311) } : Room)).room s m ([.ref h0] : List Value).toArray below meth c H locs 0 0 (MQ below (va_Qi (fun (x : Int32) (_ : Unit) => x = r9) (fun _ t_ => va_P (dC, dI) vwCl (mW cB cI cJ cZ h0 a cs9) t_.heap ∧ va_D A (mW cB cI cJ cZ h0 a cs9)) A) ([.ref h0] : List Value).toArray s 0 0 A) (F0 m 375 ls []) := by
    intro lf_375
    induction lf_375 with
    | zero => intro cs1 u1 u2 h; cases (show (none : Option (RS × Int32)) = _ from h)
    | succ lf_375 ih_375 =>
      have B_500 : ∀ (cs1 : RS) (u1 : Int32) (u2 : Int32), m_selectOf_b500 F T (m_selectOf_L375 F T lf_375) cs1 u1 u2 = some (cs9, r9) → ∀ (H : Heap) (locs : List Loc) (ls : Array Slot), va_P (dC, dI) vwCl (mW cB cI cJ cZ h0 a cs1) H → va_D A (mW cB cI cJ cZ h0 a cs1) → va_S A s.heap H locs → lv_has ls 9 [(0, .ref h0), (1, .int u1), (2, .int u2)] → W p l e (headSpec (wsOf yX12_selectOf cX12_selectOf 9 (some .int)) ({ frames := n + 1 + 311, cells := 0, slots := 0, locals := 60 * (n + 1 + 311) } : Room)).room s m ([.ref h0] : List Value).toArray below meth c H locs 0 0 (MQ below (va_Qi (fun (x : Int32) (_ : Unit) => x = r9) (fun _ t_ => va_P (dC, dI) vwCl (mW cB cI cJ cZ h0 a cs9) t_.heap ∧ va_D A (mW cB cI cJ cZ h0 a cs9)) A) ([.ref h0] : List Value).toArray s 0 0 A) (F0 m 500 ls []) := by
        intro cs1 u1 u2 h H locs ls hP hD hS hl
        unfold m_selectOf_b500 at h
        refine lv_goto (tgt := 375) hx hb dX12_selectOf_500 (by decide) ?_
        exact ih_375 cs1 u1 u2 h _ _ _ hP hD hS (lv_sub hl [0, 1, 2] rfl)
      have B_482 : ∀ (cs1 : RS) (u1 : Int32) (u2 : Int32) (u7 : Int32) (y0 : Int32), m_selectOf_b482 F T (m_selectOf_L375 F T lf_375) cs1 u1 u2 u7 y0 = some (cs9, r9) → ∀ (H : Heap) (locs : List Loc) (ls : Array Slot), va_P (dC, dI) vwCl (mW cB cI cJ cZ h0 a cs1) H → va_D A (mW cB cI cJ cZ h0 a cs1) → va_S A s.heap H locs → lv_has ls 9 [(0, .ref h0), (1, .int u1), (2, .int u2), (7, .int u7)] → W p l e (headSpec (wsOf yX12_selectOf cX12_selectOf 9 (some .int)) ({ frames := n + 1 + 311, cells := 0, slots := 0, locals := 60 * (n + 1 + 311) } : Room)).room s m ([.ref h0] : List Value).toArray below meth c H locs 0 0 (MQ below (va_Qi (fun (x : Int32) (_ : Unit) => x = r9) (fun _ t_ => va_P (dC, dI) vwCl (mW cB cI cJ cZ h0 a cs9) t_.heap ∧ va_D A (mW cB cI cJ cZ h0 a cs9)) A) ([.ref h0] : List Value).toArray s 0 0 A) (F0 m 482 ls [.int y0]) := by
        intro cs1 u1 u2 u7 y0 h H locs ls hP hD hS hl
        unfold m_selectOf_b482 at h
        refine lv_istore (lv' := [(8, .int y0), (0, .ref h0), (1, .int u1), (2, .int u2), (7, .int u7)]) hx hb dX12_selectOf_482 hl (by decide) rfl (fun ls hl => ?_)
        refine lv_aload_n hx hb dX12_selectOf_484 rfl (lv_at hl 1 rfl) ?_
        refine fg_21 hx hb hts hown hK hP dX12_selectOf_485 ?_
        refine lv_if_eq (tgt := 500) hx hb dX12_selectOf_488 (by decide) (fun c_35 => ?_) (fun c_35 => ?_)
        · skip
          replace h := (if_pos c_35).symm.trans h
          exact B_500 cs1 u1 u2 h _ _ _ hP hD hS (lv_sub hl [1, 2, 3] rfl)
        · skip
          replace h := (if_neg c_35).symm.trans h
          refine lv_aload_n hx hb dX12_selectOf_491 rfl (lv_at hl 1 rfl) ?_
          refine fg_58 hx hb hts hown hK hP dX12_selectOf_492 ?_
          refine lv_iload hx hb dX12_selectOf_495 (lv_at hl 4 rfl) ?_
          refine lv_iload hx hb dX12_selectOf_497 (lv_at hl 0 rfl) ?_
          obtain ⟨cs_36, hv_36, h⟩ := ob h
          refine ap_58 hx hb hK hP hD hS hv_36 dX12_selectOf_499 (fun H locs hP hD hS => ?_)
          exact B_500 cs_36 u1 u2 h _ _ _ hP hD hS (lv_sub hl [1, 2, 3] rfl)
      have B_402 : ∀ (cs1 : RS) (u1 : Int32) (u2 : Int32), m_selectOf_b402 F T (m_selectOf_L375 F T lf_375) cs1 u1 u2 = some (cs9, r9) → ∀ (H : Heap) (locs : List Loc) (ls : Array Slot), va_P (dC, dI) vwCl (mW cB cI cJ cZ h0 a cs1) H → va_D A (mW cB cI cJ cZ h0 a cs1) → va_S A s.heap H locs → lv_has ls 9 [(0, .ref h0), (1, .int u1), (2, .int u2)] → W p l e (headSpec (wsOf yX12_selectOf cX12_selectOf 9 (some .int)) ({ frames := n + 1 + 311, cells := 0, slots := 0, locals := 60 * (n + 1 + 311) } : Room)).room s m ([.ref h0] : List Value).toArray below meth c H locs 0 0 (MQ below (va_Qi (fun (x : Int32) (_ : Unit) => x = r9) (fun _ t_ => va_P (dC, dI) vwCl (mW cB cI cJ cZ h0 a cs9) t_.heap ∧ va_D A (mW cB cI cJ cZ h0 a cs9)) A) ([.ref h0] : List Value).toArray s 0 0 A) (F0 m 402 ls []) := by
        intro cs1 u1 u2 h H locs ls hP hD hS hl
        unfold m_selectOf_b402 at h
        refine lv_aload_n hx hb dX12_selectOf_402 rfl (lv_at hl 0 rfl) ?_
        refine va_ldcSW (own := RX12) (index := 492) (tx := soT 29) (q := K 29) hx hb hown (hZ.ref 29 (by decide)) dX12_selectOf_403 ?_
        obtain ⟨z_37, hv_37, h⟩ := ob h
        refine calI (As := [.ref (K 29)]) hx hb hml hts hown hK hP hD hS hA hZ (s_takeWord l dC dI cB cI cJ cZ h0 a K V fz F cs1 29 (by decide) z_37.1 z_37.2 hv_37) (cw_takeWord hts (fr := 8) (by show 8 + 1 ≤ n + 1 + 311; omega) (by show 8 + (3 + 11) + 60 * (8) ≤ 60 * (n + 1 + 311); omega)) rfl hl.1 (Nat.le_of_ble_eq_true rfl) ⟨Nat.zero_le _, Nat.zero_le _⟩ dX12_selectOf_406 (fun H locs hP hD hS => ?_)
        refine lv_istore (lv' := [(5, .int z_37.2), (0, .ref h0), (1, .int u1), (2, .int u2)]) hx hb dX12_selectOf_409 hl (by decide) rfl (fun ls hl => ?_)
        refine lv_aload_n hx hb dX12_selectOf_411 rfl (lv_at hl 1 rfl) ?_
        refine fg_15 hx hb hts hown hK hP dX12_selectOf_412 ?_
        refine lv_aload_n hx hb dX12_selectOf_415 rfl (lv_at hl 1 rfl) ?_
        refine fg_18 hx hb hts hown hK hP dX12_selectOf_416 ?_
        obtain ⟨v_38, hv_38, h⟩ := ob h
        refine ag_15 hx hb hK hP hv_38 dX12_selectOf_419 ?_
        refine lv_istore (lv' := [(6, .int v_38), (5, .int z_37.2), (0, .ref h0), (1, .int u1), (2, .int u2)]) hx hb dX12_selectOf_420 hl (by decide) rfl (fun ls hl => ?_)
        refine lv_aload_n hx hb dX12_selectOf_422 rfl (lv_at hl 2 rfl) ?_
        refine va_ldcSW (own := RX12) (index := 490) (tx := soT 28) (q := K 28) hx hb hown (hZ.ref 28 (by decide)) dX12_selectOf_423 ?_
        obtain ⟨cs_39, hv_39, h⟩ := ob h
        refine calV (As := [.ref (K 28)]) hx hb hml hts hown hK hP hD hS hA hZ (s_needWord l dC dI cB cI cJ cZ h0 a K V fz F z_37.1 28 (by decide) cs_39 hv_39) (cw_needWord hts (fr := 9) (by show 9 + 1 ≤ n + 1 + 311; omega) (by show 8 + (2 + 11) + 60 * (9) ≤ 60 * (n + 1 + 311); omega)) rfl hl.1 (Nat.le_of_ble_eq_true rfl) ⟨Nat.zero_le _, Nat.zero_le _⟩ dX12_selectOf_426 (fun H locs hP hD hS => ?_)
        refine lv_iconst (v := 3) hx hb dX12_selectOf_429 (by decide) ?_
        refine lv_iload_n hx hb dX12_selectOf_430 rfl (lv_at hl 3 rfl) ?_
        refine lv_imul hx hb dX12_selectOf_431 ?_
        refine lv_aload_n hx hb dX12_selectOf_432 rfl (lv_at hl 2 rfl) ?_
        refine fg_37 hx hb hts hown hK hP dX12_selectOf_433 ?_
        refine lv_iload_n hx hb dX12_selectOf_436 rfl (lv_at hl 3 rfl) ?_
        obtain ⟨v_40, hv_40, h⟩ := ob h
        refine ag_37 hx hb hK hP hv_40 dX12_selectOf_437 ?_
        refine lv_iadd hx hb dX12_selectOf_438 ?_
        refine lv_istore (lv' := [(7, .int ((3 * u1) + v_40)), (6, .int v_38), (5, .int z_37.2), (0, .ref h0), (1, .int u1), (2, .int u2)]) hx hb dX12_selectOf_439 hl (by decide) rfl (fun ls hl => ?_)
        refine lv_aload_n hx hb dX12_selectOf_441 rfl (lv_at hl 3 rfl) ?_
        refine lv_iload_n hx hb dX12_selectOf_442 rfl (lv_at hl 4 rfl) ?_
        refine lv_iload hx hb dX12_selectOf_443 (lv_at hl 2 rfl) ?_
        refine lv_iload hx hb dX12_selectOf_445 (lv_at hl 1 rfl) ?_
        obtain ⟨cs_41, hv_41, h⟩ := ob h
        refine calV (As := [.int u1, .int z_37.2, .int v_38]) hx hb hml hts hown hK hP hD hS hA hZ (hT_source cs_39 u1 z_37.2 v_38 cs_41 hv_41) (cw_source hts (fr := n + 311) (by show n + 311 + 1 ≤ n + 1 + 311; omega) (by show 8 + (7 + 11) + 60 * (n + 311) ≤ 60 * (n + 1 + 311); omega)) rfl hl.1 (Nat.le_of_ble_eq_true rfl) ⟨Nat.zero_le _, Nat.zero_le _⟩ dX12_selectOf_447 (fun H locs hP hD hS => ?_)
        refine lv_aload_n hx hb dX12_selectOf_450 rfl (lv_at hl 3 rfl) ?_
        refine lv_iload_n hx hb dX12_selectOf_451 rfl (lv_at hl 4 rfl) ?_
        refine fp_71 hx hb hts hown hK hP hD hS dX12_selectOf_452 (fun H locs hP hD hS => ?_)
        refine lv_aload_n hx hb dX12_selectOf_455 rfl (lv_at hl 3 rfl) ?_
        refine lv_iconst (v := 0) hx hb dX12_selectOf_456 (by decide) ?_
        refine fp_72 hx hb hts hown hK hP hD hS (Or.inl rfl) dX12_selectOf_457 (fun H locs hP hD hS => ?_)
        refine lv_aload_n hx hb dX12_selectOf_460 rfl (lv_at hl 3 rfl) ?_
        refine va_ldcSW (own := RX12) (index := 493) (tx := soT 30) (q := K 30) hx hb hown (hZ.ref 30 (by decide)) dX12_selectOf_461 ?_
        obtain ⟨cs_42, hv_42, h⟩ := ob h
        refine calV (As := [.ref (K 30)]) hx hb hml hts hown hK hP hD hS hA hZ (s_needWord l dC dI cB cI cJ cZ h0 a K V fz F (setF (setF cs_41 71 u1) 72 0) 30 (by decide) cs_42 hv_42) (cw_needWord hts (fr := 9) (by show 9 + 1 ≤ n + 1 + 311; omega) (by show 8 + (2 + 11) + 60 * (9) ≤ 60 * (n + 1 + 311); omega)) rfl hl.1 (Nat.le_of_ble_eq_true rfl) ⟨Nat.zero_le _, Nat.zero_le _⟩ dX12_selectOf_464 (fun H locs hP hD hS => ?_)
        refine lv_aload_n hx hb dX12_selectOf_467 rfl (lv_at hl 3 rfl) ?_
        refine fg_21 hx hb hts hown hK hP dX12_selectOf_468 ?_
        refine lv_if_eq (tgt := 481) hx hb dX12_selectOf_471 (by decide) (fun c_43 => ?_) (fun c_43 => ?_)
        · skip
          replace h := (if_pos c_43).symm.trans h
          refine lv_iconst (v := 0) hx hb dX12_selectOf_481 (by decide) ?_
          exact B_482 cs_42 u1 u2 ((3 * u1) + v_40) 0 h _ _ _ hP hD hS (lv_sub hl [3, 4, 5, 0] rfl)
        · skip
          replace h := (if_neg c_43).symm.trans h
          refine lv_aload_n hx hb dX12_selectOf_474 rfl (lv_at hl 3 rfl) ?_
          obtain ⟨z_44, hv_44, h⟩ := ob h
          refine calI (As := []) hx hb hml hts hown hK hP hD hS hA hZ (s_expr l dC dI cB cI cJ cZ h0 a K V fz F 300 cs_42  z_44.1 z_44.2 hv_44) (cw_expr hts (fr := 310) (by show 310 + 1 ≤ n + 1 + 311; omega) (by show 8 + (5 + 11) + 60 * (310) ≤ 60 * (n + 1 + 311); omega)) rfl hl.1 (Nat.le_of_ble_eq_true rfl) ⟨Nat.zero_le _, Nat.zero_le _⟩ dX12_selectOf_475 (fun H locs hP hD hS => ?_)
          refine lv_goto (tgt := 482) hx hb dX12_selectOf_478 (by decide) ?_
          exact B_482 z_44.1 u1 u2 ((3 * u1) + v_40) z_44.2 h _ _ _ hP hD hS (lv_sub hl [3, 4, 5, 0] rfl)
      intro cs1 u1 u2 h H locs ls hP hD hS hl
      rw [m_selectOf_L375] at h
      refine lv_aload_n hx hb dX12_selectOf_375 rfl (lv_at hl 0 rfl) ?_
      refine fg_21 hx hb hts hown hK hP dX12_selectOf_376 ?_
      refine lv_if_eq (tgt := 503) hx hb dX12_selectOf_379 (by decide) (fun c_45 => ?_) (fun c_45 => ?_)
      · skip
        replace h := (if_pos c_45).symm.trans h
        exact B_503 cs1 u1 u2 h _ _ _ hP hD hS (lv_sub hl [0, 1, 2] rfl)
      · skip
        replace h := (if_neg c_45).symm.trans h
        refine lv_aload_n hx hb dX12_selectOf_382 rfl (lv_at hl 0 rfl) ?_
        refine va_ldcSW (own := RX12) (index := 490) (tx := soT 28) (q := K 28) hx hb hown (hZ.ref 28 (by decide)) dX12_selectOf_383 ?_
        obtain ⟨v_46, hv_46, h⟩ := ob h
        refine calI (As := [.ref (K 28)]) hx hb hml hts hown hK hP hD hS hA hZ (s_isWord l dC dI cB cI cJ cZ h0 a K V fz F cs1 28 (by decide) v_46 hv_46) (cw_isWord hts (fr := 7) (by show 7 + 1 ≤ n + 1 + 311; omega) (by show 8 + (2 + 11) + 60 * (7) ≤ 60 * (n + 1 + 311); omega)) rfl hl.1 (Nat.le_of_ble_eq_true rfl) ⟨Nat.zero_le _, Nat.zero_le _⟩ dX12_selectOf_386 (fun H locs hP hD hS => ?_)
        refine lv_if_ne (tgt := 402) hx hb dX12_selectOf_389 (by decide) (fun c_47 => ?_) (fun c_47 => ?_)
        · skip
          replace h := (if_neg c_47).symm.trans h
          exact B_402 cs1 u1 u2 h _ _ _ hP hD hS (lv_sub hl [0, 1, 2] rfl)
        · skip
          replace h := (if_pos c_47).symm.trans h
          refine lv_aload_n hx hb dX12_selectOf_392 rfl (lv_at hl 0 rfl) ?_
          refine va_ldcSW (own := RX12) (index := 492) (tx := soT 29) (q := K 29) hx hb hown (hZ.ref 29 (by decide)) dX12_selectOf_393 ?_
          obtain ⟨v_48, hv_48, h⟩ := ob h
          refine calI (As := [.ref (K 29)]) hx hb hml hts hown hK hP hD hS hA hZ (s_isWord l dC dI cB cI cJ cZ h0 a K V fz F cs1 29 (by decide) v_48 hv_48) (cw_isWord hts (fr := 7) (by show 7 + 1 ≤ n + 1 + 311; omega) (by show 8 + (2 + 11) + 60 * (7) ≤ 60 * (n + 1 + 311); omega)) rfl hl.1 (Nat.le_of_ble_eq_true rfl) ⟨Nat.zero_le _, Nat.zero_le _⟩ dX12_selectOf_396 (fun H locs hP hD hS => ?_)
          refine lv_if_eq (tgt := 503) hx hb dX12_selectOf_399 (by decide) (fun c_49 => ?_) (fun c_49 => ?_)
          · skip
            replace h := (if_pos c_49).symm.trans h
            exact B_503 cs1 u1 u2 h _ _ _ hP hD hS (lv_sub hl [0, 1, 2] rfl)
          · skip
            replace h := (if_neg c_49).symm.trans h
            exact B_402 cs1 u1 u2 h _ _ _ hP hD hS (lv_sub hl [0, 1, 2] rfl)
  have B_356 : ∀ (cs1 : RS) (u1 : Int32) (u2 : Int32), m_selectOf_b356 F T cs1 u1 u2 = some (cs9, r9) → ∀ (H : Heap) (locs : List Loc) (ls : Array Slot), va_P (dC, dI) vwCl (mW cB cI cJ cZ h0 a cs1) H → va_D A (mW cB cI cJ cZ h0 a cs1) → va_S A s.heap H locs → lv_has ls 9 [(0, .ref h0), (1, .int u1), (2, .int u2)] → W p l e (headSpec (wsOf yX12_selectOf cX12_selectOf 9 (some .int)) ({ frames := n + 1 + 311, cells := 0, slots := 0, locals := 60 * (n + 1 + 311) } : Room)).room s m ([.ref h0] : List Value).toArray below meth c H locs 0 0 (MQ below (va_Qi (fun (x : Int32) (_ : Unit) => x = r9) (fun _ t_ => va_P (dC, dI) vwCl (mW cB cI cJ cZ h0 a cs9) t_.heap ∧ va_D A (mW cB cI cJ cZ h0 a cs9)) A) ([.ref h0] : List Value).toArray s 0 0 A) (F0 m 356 ls []) := by
    intro cs1 u1 u2 h H locs ls hP hD hS hl
    unfold m_selectOf_b356 at h
    refine lv_aload_n hx hb dX12_selectOf_356 rfl (lv_at hl 0 rfl) ?_
    refine lv_iconst (v := 0) hx hb dX12_selectOf_357 (by decide) ?_
    refine fp_72 hx hb hts hown hK hP hD hS (Or.inl rfl) dX12_selectOf_358 (fun H locs hP hD hS => ?_)
    refine lv_aload_n hx hb dX12_selectOf_361 rfl (lv_at hl 0 rfl) ?_
    refine va_ldcSW (own := RX12) (index := 484) (tx := soT 26) (q := K 26) hx hb hown (hZ.ref 26 (by decide)) dX12_selectOf_362 ?_
    obtain ⟨cs_50, hv_50, h⟩ := ob h
    refine calV (As := [.ref (K 26)]) hx hb hml hts hown hK hP hD hS hA hZ (s_needWord l dC dI cB cI cJ cZ h0 a K V fz F (setF cs1 72 0) 26 (by decide) cs_50 hv_50) (cw_needWord hts (fr := 9) (by show 9 + 1 ≤ n + 1 + 311; omega) (by show 8 + (2 + 11) + 60 * (9) ≤ 60 * (n + 1 + 311); omega)) rfl hl.1 (Nat.le_of_ble_eq_true rfl) ⟨Nat.zero_le _, Nat.zero_le _⟩ dX12_selectOf_365 (fun H locs hP hD hS => ?_)
    refine lv_aload_n hx hb dX12_selectOf_368 rfl (lv_at hl 0 rfl) ?_
    refine lv_iload_n hx hb dX12_selectOf_369 rfl (lv_at hl 1 rfl) ?_
    refine lv_iconst (v := 0) hx hb dX12_selectOf_370 (by decide) ?_
    refine lv_iconst (v := (-1)) hx hb dX12_selectOf_371 (by decide) ?_
    obtain ⟨cs_51, hv_51, h⟩ := ob h
    refine calV (As := [.int u1, .int 0, .int (-1)]) hx hb hml hts hown hK hP hD hS hA hZ (hT_source cs_50 u1 0 (-1) cs_51 hv_51) (cw_source hts (fr := n + 311) (by show n + 311 + 1 ≤ n + 1 + 311; omega) (by show 8 + (7 + 11) + 60 * (n + 311) ≤ 60 * (n + 1 + 311); omega)) rfl hl.1 (Nat.le_of_ble_eq_true rfl) ⟨Nat.zero_le _, Nat.zero_le _⟩ dX12_selectOf_372 (fun H locs hP hD hS => ?_)
    exact L_375 F cs_51 u1 u2 h _ _ _ hP hD hS (lv_sub hl [0, 1, 2] rfl)
  have L_133 : ∀ (lf_133 : Nat), ∀ (cs1 : RS) (u1 : Int32) (u2 : Int32) (u4 : Int32), m_selectOf_L133 F T lf_133 cs1 u1 u2 u4 = some (cs9, r9) → ∀ (H : Heap) (locs : List Loc) (ls : Array Slot), va_P (dC, dI) vwCl (mW cB cI cJ cZ h0 a cs1) H → va_D A (mW cB cI cJ cZ h0 a cs1) → va_S A s.heap H locs → lv_has ls 9 [(0, .ref h0), (1, .int u1), (2, .int u2), (4, .int u4)] → W p l e (headSpec (wsOf yX12_selectOf cX12_selectOf 9 (some .int)) ({ frames := n + 1 + 311, cells := 0, slots := 0, locals := 60 * (n + 1 + 311) } : Room)).room s m ([.ref h0] : List Value).toArray below meth c H locs 0 0 (MQ below (va_Qi (fun (x : Int32) (_ : Unit) => x = r9) (fun _ t_ => va_P (dC, dI) vwCl (mW cB cI cJ cZ h0 a cs9) t_.heap ∧ va_D A (mW cB cI cJ cZ h0 a cs9)) A) ([.ref h0] : List Value).toArray s 0 0 A) (F0 m 133 ls []) := by
    intro lf_133
    induction lf_133 with
    | zero => intro cs1 u1 u2 u4 h; cases (show (none : Option (RS × Int32)) = _ from h)
    | succ lf_133 ih_133 =>
      have B_345 : ∀ (cs1 : RS) (u1 : Int32) (u2 : Int32), m_selectOf_b345 F T (m_selectOf_L133 F T lf_133) cs1 u1 u2 = some (cs9, r9) → ∀ (H : Heap) (locs : List Loc) (ls : Array Slot), va_P (dC, dI) vwCl (mW cB cI cJ cZ h0 a cs1) H → va_D A (mW cB cI cJ cZ h0 a cs1) → va_S A s.heap H locs → lv_has ls 9 [(0, .ref h0), (1, .int u1), (2, .int u2)] → W p l e (headSpec (wsOf yX12_selectOf cX12_selectOf 9 (some .int)) ({ frames := n + 1 + 311, cells := 0, slots := 0, locals := 60 * (n + 1 + 311) } : Room)).room s m ([.ref h0] : List Value).toArray below meth c H locs 0 0 (MQ below (va_Qi (fun (x : Int32) (_ : Unit) => x = r9) (fun _ t_ => va_P (dC, dI) vwCl (mW cB cI cJ cZ h0 a cs9) t_.heap ∧ va_D A (mW cB cI cJ cZ h0 a cs9)) A) ([.ref h0] : List Value).toArray s 0 0 A) (F0 m 345 ls []) := by
        intro cs1 u1 u2 h H locs ls hP hD hS hl
        unfold m_selectOf_b345 at h
        refine lv_aload_n hx hb dX12_selectOf_345 rfl (lv_at hl 0 rfl) ?_
        refine lv_bipush (v := 44) hx hb dX12_selectOf_346 (by decide) ?_
        obtain ⟨z_52, hv_52, h⟩ := ob h
        refine calI (As := [.int 44]) hx hb hml hts hown hK hP hD hS hA hZ (s_takeSign l dC dI cB cI cJ cZ h0 a K V fz F cs1 44 z_52.1 z_52.2 hv_52) (cw_takeSign hts (fr := 1) (by show 1 + 1 ≤ n + 1 + 311; omega) (by show 8 + (3 + 11) + 60 * (1) ≤ 60 * (n + 1 + 311); omega)) rfl hl.1 (Nat.le_of_ble_eq_true rfl) ⟨Nat.zero_le _, Nat.zero_le _⟩ dX12_selectOf_348 (fun H locs hP hD hS => ?_)
        refine lv_istore (lv' := [(4, .int z_52.2), (0, .ref h0), (1, .int u1), (2, .int u2)]) hx hb dX12_selectOf_351 hl (by decide) rfl (fun ls hl => ?_)
        refine lv_goto (tgt := 133) hx hb dX12_selectOf_353 (by decide) ?_
        exact ih_133 z_52.1 u1 u2 z_52.2 h _ _ _ hP hD hS (lv_sub hl [1, 2, 3, 0] rfl)
      have B_300 : ∀ (cs1 : RS) (u1 : Int32) (u2 : Int32) (u5 : Int32) (u7 : Int32) (u8 : Int32), m_selectOf_b300 F T (m_selectOf_L133 F T lf_133) cs1 u1 u2 u5 u7 u8 = some (cs9, r9) → ∀ (H : Heap) (locs : List Loc) (ls : Array Slot), va_P (dC, dI) vwCl (mW cB cI cJ cZ h0 a cs1) H → va_D A (mW cB cI cJ cZ h0 a cs1) → va_S A s.heap H locs → lv_has ls 9 [(0, .ref h0), (1, .int u1), (2, .int u2), (5, .int u5), (7, .int u7), (8, .int u8)] → W p l e (headSpec (wsOf yX12_selectOf cX12_selectOf 9 (some .int)) ({ frames := n + 1 + 311, cells := 0, slots := 0, locals := 60 * (n + 1 + 311) } : Room)).room s m ([.ref h0] : List Value).toArray below meth c H locs 0 0 (MQ below (va_Qi (fun (x : Int32) (_ : Unit) => x = r9) (fun _ t_ => va_P (dC, dI) vwCl (mW cB cI cJ cZ h0 a cs9) t_.heap ∧ va_D A (mW cB cI cJ cZ h0 a cs9)) A) ([.ref h0] : List Value).toArray s 0 0 A) (F0 m 300 ls []) := by
        intro cs1 u1 u2 u5 u7 u8 h H locs ls hP hD hS hl
        unfold m_selectOf_b300 at h
        refine lv_aload_n hx hb dX12_selectOf_300 rfl (lv_at hl 0 rfl) ?_
        refine fg_21 hx hb hts hown hK hP dX12_selectOf_301 ?_
        refine lv_if_eq (tgt := 345) hx hb dX12_selectOf_304 (by decide) (fun c_53 => ?_) (fun c_53 => ?_)
        · skip
          replace h := (if_pos c_53).symm.trans h
          exact B_345 cs1 u1 u2 h _ _ _ hP hD hS (lv_sub hl [0, 1, 2] rfl)
        · skip
          replace h := (if_neg c_53).symm.trans h
          refine lv_aload_n hx hb dX12_selectOf_307 rfl (lv_at hl 0 rfl) ?_
          refine fg_44 hx hb hts hown hK hP dX12_selectOf_308 ?_
          refine lv_bipush (v := 8) hx hb dX12_selectOf_311 (by decide) ?_
          refine lv_iload_n hx hb dX12_selectOf_313 rfl (lv_at hl 1 rfl) ?_
          refine lv_imul hx hb dX12_selectOf_314 ?_
          refine lv_iload hx hb dX12_selectOf_315 (lv_at hl 3 rfl) ?_
          refine lv_iadd hx hb dX12_selectOf_317 ?_
          refine lv_iload hx hb dX12_selectOf_318 (lv_at hl 4 rfl) ?_
          obtain ⟨cs_54, hv_54, h⟩ := ob h
          refine ap_44 hx hb hK hP hD hS hv_54 dX12_selectOf_320 (fun H locs hP hD hS => ?_)
          refine lv_aload_n hx hb dX12_selectOf_321 rfl (lv_at hl 0 rfl) ?_
          refine fg_45 hx hb hts hown hK hP dX12_selectOf_322 ?_
          refine lv_bipush (v := 8) hx hb dX12_selectOf_325 (by decide) ?_
          refine lv_iload_n hx hb dX12_selectOf_327 rfl (lv_at hl 1 rfl) ?_
          refine lv_imul hx hb dX12_selectOf_328 ?_
          refine lv_iload hx hb dX12_selectOf_329 (lv_at hl 3 rfl) ?_
          refine lv_iadd hx hb dX12_selectOf_331 ?_
          refine lv_iload hx hb dX12_selectOf_332 (lv_at hl 5 rfl) ?_
          obtain ⟨cs_55, hv_55, h⟩ := ob h
          refine ap_45 hx hb hK hP hD hS hv_55 dX12_selectOf_334 (fun H locs hP hD hS => ?_)
          refine lv_aload_n hx hb dX12_selectOf_335 rfl (lv_at hl 0 rfl) ?_
          refine fg_36 hx hb hts hown hK hP dX12_selectOf_336 ?_
          refine lv_iload_n hx hb dX12_selectOf_339 rfl (lv_at hl 1 rfl) ?_
          refine lv_dup2_11 hx hb dX12_selectOf_340 rfl rfl ?_
          obtain ⟨v_56, hv_56, h⟩ := ob h
          refine ag_36 hx hb hK hP hv_56 dX12_selectOf_341 ?_
          refine lv_iconst (v := 1) hx hb dX12_selectOf_342 (by decide) ?_
          refine lv_iadd hx hb dX12_selectOf_343 ?_
          obtain ⟨cs_57, hv_57, h⟩ := ob h
          refine ap_36 hx hb hK hP hD hS hv_57 dX12_selectOf_344 (fun H locs hP hD hS => ?_)
          exact B_345 cs_57 u1 u2 h _ _ _ hP hD hS (lv_sub hl [0, 1, 2] rfl)
      have B_282 : ∀ (cs1 : RS) (u1 : Int32) (u2 : Int32) (u5 : Int32) (u7 : Int32) (y0 : Int32), m_selectOf_b282 F T (m_selectOf_L133 F T lf_133) cs1 u1 u2 u5 u7 y0 = some (cs9, r9) → ∀ (H : Heap) (locs : List Loc) (ls : Array Slot), va_P (dC, dI) vwCl (mW cB cI cJ cZ h0 a cs1) H → va_D A (mW cB cI cJ cZ h0 a cs1) → va_S A s.heap H locs → lv_has ls 9 [(0, .ref h0), (1, .int u1), (2, .int u2), (5, .int u5), (7, .int u7)] → W p l e (headSpec (wsOf yX12_selectOf cX12_selectOf 9 (some .int)) ({ frames := n + 1 + 311, cells := 0, slots := 0, locals := 60 * (n + 1 + 311) } : Room)).room s m ([.ref h0] : List Value).toArray below meth c H locs 0 0 (MQ below (va_Qi (fun (x : Int32) (_ : Unit) => x = r9) (fun _ t_ => va_P (dC, dI) vwCl (mW cB cI cJ cZ h0 a cs9) t_.heap ∧ va_D A (mW cB cI cJ cZ h0 a cs9)) A) ([.ref h0] : List Value).toArray s 0 0 A) (F0 m 282 ls [.int y0]) := by
        intro cs1 u1 u2 u5 u7 y0 h H locs ls hP hD hS hl
        unfold m_selectOf_b282 at h
        refine lv_istore (lv' := [(8, .int y0), (0, .ref h0), (1, .int u1), (2, .int u2), (5, .int u5), (7, .int u7)]) hx hb dX12_selectOf_282 hl (by decide) rfl (fun ls hl => ?_)
        refine lv_aload_n hx hb dX12_selectOf_284 rfl (lv_at hl 1 rfl) ?_
        refine va_ldcSW (own := RX12) (index := 482) (tx := soT 25) (q := K 25) hx hb hown (hZ.ref 25 (by decide)) dX12_selectOf_285 ?_
        obtain ⟨z_58, hv_58, h⟩ := ob h
        refine calI (As := [.ref (K 25)]) hx hb hml hts hown hK hP hD hS hA hZ (s_takeWord l dC dI cB cI cJ cZ h0 a K V fz F cs1 25 (by decide) z_58.1 z_58.2 hv_58) (cw_takeWord hts (fr := 8) (by show 8 + 1 ≤ n + 1 + 311; omega) (by show 8 + (3 + 11) + 60 * (8) ≤ 60 * (n + 1 + 311); omega)) rfl hl.1 (Nat.le_of_ble_eq_true rfl) ⟨Nat.zero_le _, Nat.zero_le _⟩ dX12_selectOf_288 (fun H locs hP hD hS => ?_)
        refine lv_if_eq (tgt := 300) hx hb dX12_selectOf_291 (by decide) (fun c_59 => ?_) (fun c_59 => ?_)
        · skip
          replace h := (if_pos c_59).symm.trans h
          exact B_300 z_58.1 u1 u2 u5 u7 y0 h _ _ _ hP hD hS (lv_sub hl [1, 2, 3, 4, 5, 0] rfl)
        · skip
          replace h := (if_neg c_59).symm.trans h
          refine lv_aload_n hx hb dX12_selectOf_294 rfl (lv_at hl 1 rfl) ?_
          obtain ⟨z_60, hv_60, h⟩ := ob h
          refine calI (As := []) hx hb hml hts hown hK hP hD hS hA hZ (s_name l dC dI cB cI cJ cZ h0 a K V fz F z_58.1  z_60.1 z_60.2 hv_60) (cw_name hts (fr := 8) (by show 8 + 1 ≤ n + 1 + 311; omega) (by show 8 + (1 + 11) + 60 * (8) ≤ 60 * (n + 1 + 311); omega)) rfl hl.1 (Nat.le_of_ble_eq_true rfl) ⟨Nat.zero_le _, Nat.zero_le _⟩ dX12_selectOf_295 (fun H locs hP hD hS => ?_)
          refine lv_istore (lv' := [(8, .int z_60.2), (0, .ref h0), (1, .int u1), (2, .int u2), (5, .int u5), (7, .int u7)]) hx hb dX12_selectOf_298 hl (by decide) rfl (fun ls hl => ?_)
          exact B_300 z_60.1 u1 u2 u5 u7 z_60.2 h _ _ _ hP hD hS (lv_sub hl [1, 2, 3, 4, 5, 0] rfl)
      have B_281 : ∀ (cs1 : RS) (u1 : Int32) (u2 : Int32) (u5 : Int32) (u7 : Int32), m_selectOf_b281 F T (m_selectOf_L133 F T lf_133) cs1 u1 u2 u5 u7 = some (cs9, r9) → ∀ (H : Heap) (locs : List Loc) (ls : Array Slot), va_P (dC, dI) vwCl (mW cB cI cJ cZ h0 a cs1) H → va_D A (mW cB cI cJ cZ h0 a cs1) → va_S A s.heap H locs → lv_has ls 9 [(0, .ref h0), (1, .int u1), (2, .int u2), (5, .int u5), (7, .int u7)] → W p l e (headSpec (wsOf yX12_selectOf cX12_selectOf 9 (some .int)) ({ frames := n + 1 + 311, cells := 0, slots := 0, locals := 60 * (n + 1 + 311) } : Room)).room s m ([.ref h0] : List Value).toArray below meth c H locs 0 0 (MQ below (va_Qi (fun (x : Int32) (_ : Unit) => x = r9) (fun _ t_ => va_P (dC, dI) vwCl (mW cB cI cJ cZ h0 a cs9) t_.heap ∧ va_D A (mW cB cI cJ cZ h0 a cs9)) A) ([.ref h0] : List Value).toArray s 0 0 A) (F0 m 281 ls []) := by
        intro cs1 u1 u2 u5 u7 h H locs ls hP hD hS hl
        unfold m_selectOf_b281 at h
        refine lv_iconst (v := (-1)) hx hb dX12_selectOf_281 (by decide) ?_
        exact B_282 cs1 u1 u2 u5 u7 (-1) h _ _ _ hP hD hS (lv_sub hl [0, 1, 2, 3, 4] rfl)
      have B_246 : ∀ (cs1 : RS) (u1 : Int32) (u2 : Int32) (u5 : Int32) (u7 : Int32) (y0 : Int32) (y1 : Int32) (y2 : Int32), m_selectOf_b246 F T (m_selectOf_L133 F T lf_133) cs1 u1 u2 u5 u7 y0 y1 y2 = some (cs9, r9) → ∀ (H : Heap) (locs : List Loc) (ls : Array Slot), va_P (dC, dI) vwCl (mW cB cI cJ cZ h0 a cs1) H → va_D A (mW cB cI cJ cZ h0 a cs1) → va_S A s.heap H locs → lv_has ls 9 [(0, .ref h0), (1, .int u1), (2, .int u2), (5, .int u5), (7, .int u7)] → W p l e (headSpec (wsOf yX12_selectOf cX12_selectOf 9 (some .int)) ({ frames := n + 1 + 311, cells := 0, slots := 0, locals := 60 * (n + 1 + 311) } : Room)).room s m ([.ref h0] : List Value).toArray below meth c H locs 0 0 (MQ below (va_Qi (fun (x : Int32) (_ : Unit) => x = r9) (fun _ t_ => va_P (dC, dI) vwCl (mW cB cI cJ cZ h0 a cs9) t_.heap ∧ va_D A (mW cB cI cJ cZ h0 a cs9)) A) ([.ref h0] : List Value).toArray s 0 0 A) (F0 m 246 ls [.int y0, .int y1, .int y2]) := by
        intro cs1 u1 u2 u5 u7 y0 y1 y2 h H locs ls hP hD hS hl
        unfold m_selectOf_b246 at h
        refine lv_iadd hx hb dX12_selectOf_246 ?_
        refine lv_icmp_ne (tgt := 281) hx hb dX12_selectOf_247 (by decide) (fun c_61 => ?_) (fun c_61 => ?_)
        · skip
          replace h := (if_neg c_61).symm.trans h
          exact B_281 cs1 u1 u2 u5 u7 h _ _ _ hP hD hS (lv_sub hl [0, 1, 2, 3, 4] rfl)
        · skip
          replace h := (if_pos c_61).symm.trans h
          refine lv_aload_n hx hb dX12_selectOf_250 rfl (lv_at hl 0 rfl) ?_
          refine fg_27 hx hb hts hown hK hP dX12_selectOf_251 ?_
          refine lv_iload hx hb dX12_selectOf_254 (lv_at hl 4 rfl) ?_
          obtain ⟨v_62, hv_62, h⟩ := ob h
          refine ag_27 hx hb hK hP hv_62 dX12_selectOf_256 ?_
          refine lv_iconst (v := (-1)) hx hb dX12_selectOf_257 (by decide) ?_
          refine lv_icmp_ne (tgt := 271) hx hb dX12_selectOf_258 (by decide) (fun c_63 => ?_) (fun c_63 => ?_)
          · skip
            replace h := (if_neg c_63).symm.trans h
            refine lv_aload_n hx hb dX12_selectOf_271 rfl (lv_at hl 0 rfl) ?_
            refine fg_27 hx hb hts hown hK hP dX12_selectOf_272 ?_
            refine lv_iload hx hb dX12_selectOf_275 (lv_at hl 4 rfl) ?_
            obtain ⟨v_64, hv_64, h⟩ := ob h
            refine ag_27 hx hb hK hP hv_64 dX12_selectOf_277 ?_
            refine lv_goto (tgt := 282) hx hb dX12_selectOf_278 (by decide) ?_
            exact B_282 cs1 u1 u2 u5 u7 v_64 h _ _ _ hP hD hS (lv_sub hl [0, 1, 2, 3, 4] rfl)
          · skip
            replace h := (if_pos c_63).symm.trans h
            refine lv_aload_n hx hb dX12_selectOf_261 rfl (lv_at hl 0 rfl) ?_
            refine fg_30 hx hb hts hown hK hP dX12_selectOf_262 ?_
            refine lv_iload hx hb dX12_selectOf_265 (lv_at hl 4 rfl) ?_
            obtain ⟨v_65, hv_65, h⟩ := ob h
            refine ag_30 hx hb hK hP hv_65 dX12_selectOf_267 ?_
            refine lv_goto (tgt := 282) hx hb dX12_selectOf_268 (by decide) ?_
            exact B_282 cs1 u1 u2 u5 u7 v_65 h _ _ _ hP hD hS (lv_sub hl [0, 1, 2, 3, 4] rfl)
      have B_204 : ∀ (cs1 : RS) (u1 : Int32) (u2 : Int32) (u5 : Int32) (u6 : Int32) (y0 : Int32), m_selectOf_b204 F T (m_selectOf_L133 F T lf_133) cs1 u1 u2 u5 u6 y0 = some (cs9, r9) → ∀ (H : Heap) (locs : List Loc) (ls : Array Slot), va_P (dC, dI) vwCl (mW cB cI cJ cZ h0 a cs1) H → va_D A (mW cB cI cJ cZ h0 a cs1) → va_S A s.heap H locs → lv_has ls 9 [(0, .ref h0), (1, .int u1), (2, .int u2), (5, .int u5), (6, .int u6)] → W p l e (headSpec (wsOf yX12_selectOf cX12_selectOf 9 (some .int)) ({ frames := n + 1 + 311, cells := 0, slots := 0, locals := 60 * (n + 1 + 311) } : Room)).room s m ([.ref h0] : List Value).toArray below meth c H locs 0 0 (MQ below (va_Qi (fun (x : Int32) (_ : Unit) => x = r9) (fun _ t_ => va_P (dC, dI) vwCl (mW cB cI cJ cZ h0 a cs9) t_.heap ∧ va_D A (mW cB cI cJ cZ h0 a cs9)) A) ([.ref h0] : List Value).toArray s 0 0 A) (F0 m 204 ls [.int y0]) := by
        intro cs1 u1 u2 u5 u6 y0 h H locs ls hP hD hS hl
        unfold m_selectOf_b204 at h
        refine lv_istore (lv' := [(7, .int y0), (0, .ref h0), (1, .int u1), (2, .int u2), (5, .int u5), (6, .int u6)]) hx hb dX12_selectOf_204 hl (by decide) rfl (fun ls hl => ?_)
        refine lv_aload_n hx hb dX12_selectOf_206 rfl (lv_at hl 1 rfl) ?_
        refine fg_21 hx hb hts hown hK hP dX12_selectOf_207 ?_
        refine lv_if_eq (tgt := 281) hx hb dX12_selectOf_210 (by decide) (fun c_66 => ?_) (fun c_66 => ?_)
        · skip
          replace h := (if_pos c_66).symm.trans h
          exact B_281 cs1 u1 u2 u5 y0 h _ _ _ hP hD hS (lv_sub hl [1, 2, 3, 4, 0] rfl)
        · skip
          replace h := (if_neg c_66).symm.trans h
          refine lv_aload_n hx hb dX12_selectOf_213 rfl (lv_at hl 1 rfl) ?_
          refine fg_23 hx hb hts hown hK hP dX12_selectOf_214 ?_
          refine lv_iload hx hb dX12_selectOf_217 (lv_at hl 0 rfl) ?_
          obtain ⟨v_67, hv_67, h⟩ := ob h
          refine ag_23 hx hb hK hP hv_67 dX12_selectOf_219 ?_
          refine lv_iconst (v := 5) hx hb dX12_selectOf_220 (by decide) ?_
          refine lv_icmp_ne (tgt := 281) hx hb dX12_selectOf_221 (by decide) (fun c_68 => ?_) (fun c_68 => ?_)
          · skip
            replace h := (if_neg c_68).symm.trans h
            exact B_281 cs1 u1 u2 u5 y0 h _ _ _ hP hD hS (lv_sub hl [1, 2, 3, 4, 0] rfl)
          · skip
            replace h := (if_pos c_68).symm.trans h
            refine lv_aload_n hx hb dX12_selectOf_224 rfl (lv_at hl 1 rfl) ?_
            refine fg_18 hx hb hts hown hK hP dX12_selectOf_225 ?_
            refine lv_iload hx hb dX12_selectOf_228 (lv_at hl 5 rfl) ?_
            refine lv_aload_n hx hb dX12_selectOf_230 rfl (lv_at hl 1 rfl) ?_
            refine fg_27 hx hb hts hown hK hP dX12_selectOf_231 ?_
            refine lv_iload hx hb dX12_selectOf_234 (lv_at hl 0 rfl) ?_
            obtain ⟨v_69, hv_69, h⟩ := ob h
            refine ag_27 hx hb hK hP hv_69 dX12_selectOf_236 ?_
            refine lv_iconst (v := (-1)) hx hb dX12_selectOf_237 (by decide) ?_
            refine lv_icmp_ne (tgt := 245) hx hb dX12_selectOf_238 (by decide) (fun c_70 => ?_) (fun c_70 => ?_)
            · skip
              replace h := (if_neg c_70).symm.trans h
              refine lv_iconst (v := 3) hx hb dX12_selectOf_245 (by decide) ?_
              exact B_246 cs1 u1 u2 u5 y0 3 u6 (cs1.1 18) h _ _ _ hP hD hS (lv_sub hl [1, 2, 3, 4, 0] rfl)
            · skip
              replace h := (if_pos c_70).symm.trans h
              refine lv_iconst (v := 1) hx hb dX12_selectOf_241 (by decide) ?_
              refine lv_goto (tgt := 246) hx hb dX12_selectOf_242 (by decide) ?_
              exact B_246 cs1 u1 u2 u5 y0 1 u6 (cs1.1 18) h _ _ _ hP hD hS (lv_sub hl [1, 2, 3, 4, 0] rfl)
      have B_183 : ∀ (cs1 : RS) (u1 : Int32) (u2 : Int32) (u5 : Int32), m_selectOf_b183 F T (m_selectOf_L133 F T lf_133) cs1 u1 u2 u5 = some (cs9, r9) → ∀ (H : Heap) (locs : List Loc) (ls : Array Slot), va_P (dC, dI) vwCl (mW cB cI cJ cZ h0 a cs1) H → va_D A (mW cB cI cJ cZ h0 a cs1) → va_S A s.heap H locs → lv_has ls 9 [(0, .ref h0), (1, .int u1), (2, .int u2), (5, .int u5)] → W p l e (headSpec (wsOf yX12_selectOf cX12_selectOf 9 (some .int)) ({ frames := n + 1 + 311, cells := 0, slots := 0, locals := 60 * (n + 1 + 311) } : Room)).room s m ([.ref h0] : List Value).toArray below meth c H locs 0 0 (MQ below (va_Qi (fun (x : Int32) (_ : Unit) => x = r9) (fun _ t_ => va_P (dC, dI) vwCl (mW cB cI cJ cZ h0 a cs9) t_.heap ∧ va_D A (mW cB cI cJ cZ h0 a cs9)) A) ([.ref h0] : List Value).toArray s 0 0 A) (F0 m 183 ls []) := by
        intro cs1 u1 u2 u5 h H locs ls hP hD hS hl
        unfold m_selectOf_b183 at h
        refine lv_aload_n hx hb dX12_selectOf_183 rfl (lv_at hl 0 rfl) ?_
        refine fg_18 hx hb hts hown hK hP dX12_selectOf_184 ?_
        refine lv_istore (lv' := [(6, .int (cs1.1 18)), (0, .ref h0), (1, .int u1), (2, .int u2), (5, .int u5)]) hx hb dX12_selectOf_187 hl (by decide) rfl (fun ls hl => ?_)
        refine lv_aload_n hx hb dX12_selectOf_189 rfl (lv_at hl 1 rfl) ?_
        refine fg_21 hx hb hts hown hK hP dX12_selectOf_190 ?_
        refine lv_if_eq (tgt := 203) hx hb dX12_selectOf_193 (by decide) (fun c_71 => ?_) (fun c_71 => ?_)
        · skip
          replace h := (if_pos c_71).symm.trans h
          refine lv_iconst (v := 0) hx hb dX12_selectOf_203 (by decide) ?_
          exact B_204 cs1 u1 u2 u5 (cs1.1 18) 0 h _ _ _ hP hD hS (lv_sub hl [1, 2, 3, 4, 0] rfl)
        · skip
          replace h := (if_neg c_71).symm.trans h
          refine lv_aload_n hx hb dX12_selectOf_196 rfl (lv_at hl 1 rfl) ?_
          obtain ⟨z_72, hv_72, h⟩ := ob h
          refine calI (As := []) hx hb hml hts hown hK hP hD hS hA hZ (s_expr l dC dI cB cI cJ cZ h0 a K V fz F 300 cs1  z_72.1 z_72.2 hv_72) (cw_expr hts (fr := 310) (by show 310 + 1 ≤ n + 1 + 311; omega) (by show 8 + (5 + 11) + 60 * (310) ≤ 60 * (n + 1 + 311); omega)) rfl hl.1 (Nat.le_of_ble_eq_true rfl) ⟨Nat.zero_le _, Nat.zero_le _⟩ dX12_selectOf_197 (fun H locs hP hD hS => ?_)
          refine lv_goto (tgt := 204) hx hb dX12_selectOf_200 (by decide) ?_
          exact B_204 z_72.1 u1 u2 u5 (cs1.1 18) z_72.2 h _ _ _ hP hD hS (lv_sub hl [1, 2, 3, 4, 0] rfl)
      intro cs1 u1 u2 u4 h H locs ls hP hD hS hl
      rw [m_selectOf_L133] at h
      refine lv_iload hx hb dX12_selectOf_133 (lv_at hl 3 rfl) ?_
      refine lv_if_eq (tgt := 356) hx hb dX12_selectOf_135 (by decide) (fun c_73 => ?_) (fun c_73 => ?_)
      · skip
        replace h := (if_pos c_73).symm.trans h
        exact B_356 cs1 u1 u2 h _ _ _ hP hD hS (lv_sub hl [0, 1, 2] rfl)
      · skip
        replace h := (if_neg c_73).symm.trans h
        refine lv_aload_n hx hb dX12_selectOf_138 rfl (lv_at hl 0 rfl) ?_
        refine fg_21 hx hb hts hown hK hP dX12_selectOf_139 ?_
        refine lv_if_eq (tgt := 356) hx hb dX12_selectOf_142 (by decide) (fun c_74 => ?_) (fun c_74 => ?_)
        · skip
          replace h := (if_pos c_74).symm.trans h
          exact B_356 cs1 u1 u2 h _ _ _ hP hD hS (lv_sub hl [0, 1, 2] rfl)
        · skip
          replace h := (if_neg c_74).symm.trans h
          refine lv_aload_n hx hb dX12_selectOf_145 rfl (lv_at hl 0 rfl) ?_
          refine fg_36 hx hb hts hown hK hP dX12_selectOf_146 ?_
          refine lv_iload_n hx hb dX12_selectOf_149 rfl (lv_at hl 1 rfl) ?_
          obtain ⟨v_75, hv_75, h⟩ := ob h
          refine ag_36 hx hb hK hP hv_75 dX12_selectOf_150 ?_
          refine lv_istore (lv' := [(5, .int v_75), (0, .ref h0), (1, .int u1), (2, .int u2), (4, .int u4)]) hx hb dX12_selectOf_151 hl (by decide) rfl (fun ls hl => ?_)
          refine lv_iload hx hb dX12_selectOf_153 (lv_at hl 0 rfl) ?_
          refine lv_bipush (v := 8) hx hb dX12_selectOf_155 (by decide) ?_
          refine lv_icmp_ne (tgt := 183) hx hb dX12_selectOf_157 (by decide) (fun c_76 => ?_) (fun c_76 => ?_)
          · skip
            replace h := (if_neg c_76).symm.trans h
            exact B_183 cs1 u1 u2 v_75 h _ _ _ hP hD hS (lv_sub hl [1, 2, 3, 0] rfl)
          · skip
            replace h := (if_pos c_76).symm.trans h
            refine lv_aload_n hx hb dX12_selectOf_160 rfl (lv_at hl 1 rfl) ?_
            refine lv_iconst (v := 0) hx hb dX12_selectOf_161 (by decide) ?_
            obtain ⟨v_77, hv_77, h⟩ := ob h
            refine calI (As := [.int 0]) hx hb hml hts hown hK hP hD hS hA hZ (s_begins l dC dI cB cI cJ cZ h0 a K V fz F cs1 0 v_77 hv_77) (cw_begins hts (fr := 7) (by show 7 + 1 ≤ n + 1 + 311; omega) (by show 8 + (5 + 11) + 60 * (7) ≤ 60 * (n + 1 + 311); omega)) rfl hl.1 (Nat.le_of_ble_eq_true rfl) ⟨Nat.zero_le _, Nat.zero_le _⟩ dX12_selectOf_162 (fun H locs hP hD hS => ?_)
            refine lv_if_eq (tgt := 183) hx hb dX12_selectOf_165 (by decide) (fun c_78 => ?_) (fun c_78 => ?_)
            · skip
              replace h := (if_pos c_78).symm.trans h
              exact B_183 cs1 u1 u2 v_75 h _ _ _ hP hD hS (lv_sub hl [1, 2, 3, 0] rfl)
            · skip
              replace h := (if_neg c_78).symm.trans h
              refine lv_aload_n hx hb dX12_selectOf_168 rfl (lv_at hl 1 rfl) ?_
              refine lv_bipush (v := 7) hx hb dX12_selectOf_169 (by decide) ?_
              refine lv_aload_n hx hb dX12_selectOf_171 rfl (lv_at hl 1 rfl) ?_
              refine fg_15 hx hb hts hown hK hP dX12_selectOf_172 ?_
              refine lv_aload_n hx hb dX12_selectOf_175 rfl (lv_at hl 1 rfl) ?_
              refine fg_18 hx hb hts hown hK hP dX12_selectOf_176 ?_
              obtain ⟨v_79, hv_79, h⟩ := ob h
              refine ag_15 hx hb hK hP hv_79 dX12_selectOf_179 ?_
              obtain ⟨cs_80, hv_80, h⟩ := ob h
              refine calV (As := [.int 7, .int v_79]) hx hb hml hts hown hK hP hD hS hA hZ (s_tell l dC dI cB cI cJ cZ h0 a K V fz F cs1 7 v_79 cs_80 hv_80) (cw_tell hts (fr := 0) (by show 0 + 1 ≤ n + 1 + 311; omega) (by show 8 + (3 + 11) + 60 * (0) ≤ 60 * (n + 1 + 311); omega)) rfl hl.1 (Nat.le_of_ble_eq_true rfl) ⟨Nat.zero_le _, Nat.zero_le _⟩ dX12_selectOf_180 (fun H locs hP hD hS => ?_)
              exact B_183 cs_80 u1 u2 v_75 h _ _ _ hP hD hS (lv_sub hl [1, 2, 3, 0] rfl)
  have B_116 : ∀ (cs1 : RS) (u1 : Int32) (u2 : Int32) (y0 : Int32) (y1 : Int32), m_selectOf_b116 F T cs1 u1 u2 y0 y1 = some (cs9, r9) → ∀ (H : Heap) (locs : List Loc) (ls : Array Slot), va_P (dC, dI) vwCl (mW cB cI cJ cZ h0 a cs1) H → va_D A (mW cB cI cJ cZ h0 a cs1) → va_S A s.heap H locs → lv_has ls 9 [(0, .ref h0), (1, .int u1), (2, .int u2)] → W p l e (headSpec (wsOf yX12_selectOf cX12_selectOf 9 (some .int)) ({ frames := n + 1 + 311, cells := 0, slots := 0, locals := 60 * (n + 1 + 311) } : Room)).room s m ([.ref h0] : List Value).toArray below meth c H locs 0 0 (MQ below (va_Qi (fun (x : Int32) (_ : Unit) => x = r9) (fun _ t_ => va_P (dC, dI) vwCl (mW cB cI cJ cZ h0 a cs9) t_.heap ∧ va_D A (mW cB cI cJ cZ h0 a cs9)) A) ([.ref h0] : List Value).toArray s 0 0 A) (F0 m 116 ls [.int y0, .int y1, .ref (a 35)]) := by
    intro cs1 u1 u2 y0 y1 h H locs ls hP hD hS hl
    unfold m_selectOf_b116 at h
    obtain ⟨cs_81, hv_81, h⟩ := ob h
    refine ap_35 hx hb hK hP hD hS hv_81 dX12_selectOf_116 (fun H locs hP hD hS => ?_)
    refine lv_aload_n hx hb dX12_selectOf_117 rfl (lv_at hl 0 rfl) ?_
    refine va_ldcSW (own := RX12) (index := 480) (tx := soT 4) (q := K 4) hx hb hown (hZ.ref 4 (by decide)) dX12_selectOf_118 ?_
    obtain ⟨z_82, hv_82, h⟩ := ob h
    refine calI (As := [.ref (K 4)]) hx hb hml hts hown hK hP hD hS hA hZ (s_takeWord l dC dI cB cI cJ cZ h0 a K V fz F cs_81 4 (by decide) z_82.1 z_82.2 hv_82) (cw_takeWord hts (fr := 8) (by show 8 + 1 ≤ n + 1 + 311; omega) (by show 8 + (3 + 11) + 60 * (8) ≤ 60 * (n + 1 + 311); omega)) rfl hl.1 (Nat.le_of_ble_eq_true rfl) ⟨Nat.zero_le _, Nat.zero_le _⟩ dX12_selectOf_121 (fun H locs hP hD hS => ?_)
    refine lv_istore_n (lv' := [(3, .int z_82.2), (0, .ref h0), (1, .int u1), (2, .int u2)]) hx hb dX12_selectOf_124 rfl hl (by decide) rfl (fun ls hl => ?_)
    refine lv_iconst (v := 1) hx hb dX12_selectOf_125 (by decide) ?_
    refine lv_istore (lv' := [(4, .int 1), (3, .int z_82.2), (0, .ref h0), (1, .int u1), (2, .int u2)]) hx hb dX12_selectOf_126 hl (by decide) rfl (fun ls hl => ?_)
    refine lv_aload_n hx hb dX12_selectOf_128 rfl (lv_at hl 2 rfl) ?_
    refine lv_iconst (v := 1) hx hb dX12_selectOf_129 (by decide) ?_
    refine fp_72 hx hb hts hown hK hP hD hS (Or.inr rfl) dX12_selectOf_130 (fun H locs hP hD hS => ?_)
    exact L_133 F (setF z_82.1 72 1) u1 u2 1 h _ _ _ hP hD hS (lv_sub hl [2, 3, 4, 0] rfl)
  have h := hf
  unfold b_selectOf at h
  refine lv_aload_n hx hb dX12_selectOf_0 rfl (lv_at hl 0 rfl) ?_
  refine va_ldcSW (own := RX12) (index := 476) (tx := soT 3) (q := K 3) hx hb hown (hZ.ref 3 (by decide)) dX12_selectOf_1 ?_
  obtain ⟨cs_83, hv_83, h⟩ := ob h
  refine calV (As := [.ref (K 3)]) hx hb hml hts hown hK hP hD hS hA hZ (s_needWord l dC dI cB cI cJ cZ h0 a K V fz F cs 3 (by decide) cs_83 hv_83) (cw_needWord hts (fr := 9) (by show 9 + 1 ≤ n + 1 + 311; omega) (by show 8 + (2 + 11) + 60 * (9) ≤ 60 * (n + 1 + 311); omega)) rfl hl.1 (Nat.le_of_ble_eq_true rfl) ⟨Nat.zero_le _, Nat.zero_le _⟩ dX12_selectOf_4 (fun H locs hP hD hS => ?_)
  refine lv_aload_n hx hb dX12_selectOf_7 rfl (lv_at hl 0 rfl) ?_
  refine fg_34 hx hb hts hown hK hP dX12_selectOf_8 ?_
  refine lv_istore_n (lv' := [(1, .int (cs_83.1 34)), (0, .ref h0)]) hx hb dX12_selectOf_11 rfl hl (by decide) rfl (fun ls hl => ?_)
  refine lv_aload_n hx hb dX12_selectOf_12 rfl (lv_at hl 1 rfl) ?_
  refine lv_dup hx hb dX12_selectOf_13 rfl ?_
  refine fg_34 hx hb hts hown hK hP dX12_selectOf_14 ?_
  refine lv_iconst (v := 1) hx hb dX12_selectOf_17 (by decide) ?_
  refine lv_iadd hx hb dX12_selectOf_18 ?_
  refine fp_34 hx hb hts hown hK hP hD hS dX12_selectOf_19 (fun H locs hP hD hS => ?_)
  refine lv_aload_n hx hb dX12_selectOf_22 rfl (lv_at hl 1 rfl) ?_
  refine fg_71 hx hb hts hown hK hP dX12_selectOf_23 ?_
  refine lv_istore_n (lv' := [(2, .int ((setF cs_83 34 ((cs_83.1 34) + 1)).1 71)), (1, .int (cs_83.1 34)), (0, .ref h0)]) hx hb dX12_selectOf_26 rfl hl (by decide) rfl (fun ls hl => ?_)
  refine lv_aload_n hx hb dX12_selectOf_27 rfl (lv_at hl 2 rfl) ?_
  refine lv_iload_n hx hb dX12_selectOf_28 rfl (lv_at hl 1 rfl) ?_
  refine fp_71 hx hb hts hown hK hP hD hS dX12_selectOf_29 (fun H locs hP hD hS => ?_)
  refine lv_aload_n hx hb dX12_selectOf_32 rfl (lv_at hl 2 rfl) ?_
  refine fg_36 hx hb hts hown hK hP dX12_selectOf_33 ?_
  refine lv_iload_n hx hb dX12_selectOf_36 rfl (lv_at hl 1 rfl) ?_
  refine lv_iconst (v := 0) hx hb dX12_selectOf_37 (by decide) ?_
  obtain ⟨cs_84, hv_84, h⟩ := ob h
  refine ap_36 hx hb hK hP hD hS hv_84 dX12_selectOf_38 (fun H locs hP hD hS => ?_)
  refine lv_aload_n hx hb dX12_selectOf_39 rfl (lv_at hl 2 rfl) ?_
  refine fg_37 hx hb hts hown hK hP dX12_selectOf_40 ?_
  refine lv_iload_n hx hb dX12_selectOf_43 rfl (lv_at hl 1 rfl) ?_
  refine lv_iconst (v := 0) hx hb dX12_selectOf_44 (by decide) ?_
  obtain ⟨cs_85, hv_85, h⟩ := ob h
  refine ap_37 hx hb hK hP hD hS hv_85 dX12_selectOf_45 (fun H locs hP hD hS => ?_)
  refine lv_aload_n hx hb dX12_selectOf_46 rfl (lv_at hl 2 rfl) ?_
  refine fg_38 hx hb hts hown hK hP dX12_selectOf_47 ?_
  refine lv_iload_n hx hb dX12_selectOf_50 rfl (lv_at hl 1 rfl) ?_
  refine lv_iconst (v := (-1)) hx hb dX12_selectOf_51 (by decide) ?_
  obtain ⟨cs_86, hv_86, h⟩ := ob h
  refine ap_38 hx hb hK hP hD hS hv_86 dX12_selectOf_52 (fun H locs hP hD hS => ?_)
  refine lv_aload_n hx hb dX12_selectOf_53 rfl (lv_at hl 2 rfl) ?_
  refine fg_39 hx hb hts hown hK hP dX12_selectOf_54 ?_
  refine lv_iload_n hx hb dX12_selectOf_57 rfl (lv_at hl 1 rfl) ?_
  refine lv_iconst (v := 0) hx hb dX12_selectOf_58 (by decide) ?_
  obtain ⟨cs_87, hv_87, h⟩ := ob h
  refine ap_39 hx hb hK hP hD hS hv_87 dX12_selectOf_59 (fun H locs hP hD hS => ?_)
  refine lv_aload_n hx hb dX12_selectOf_60 rfl (lv_at hl 2 rfl) ?_
  refine fg_40 hx hb hts hown hK hP dX12_selectOf_61 ?_
  refine lv_iload_n hx hb dX12_selectOf_64 rfl (lv_at hl 1 rfl) ?_
  refine lv_iconst (v := (-1)) hx hb dX12_selectOf_65 (by decide) ?_
  obtain ⟨cs_88, hv_88, h⟩ := ob h
  refine ap_40 hx hb hK hP hD hS hv_88 dX12_selectOf_66 (fun H locs hP hD hS => ?_)
  refine lv_aload_n hx hb dX12_selectOf_67 rfl (lv_at hl 2 rfl) ?_
  refine fg_41 hx hb hts hown hK hP dX12_selectOf_68 ?_
  refine lv_iload_n hx hb dX12_selectOf_71 rfl (lv_at hl 1 rfl) ?_
  refine lv_iconst (v := (-1)) hx hb dX12_selectOf_72 (by decide) ?_
  obtain ⟨cs_89, hv_89, h⟩ := ob h
  refine ap_41 hx hb hK hP hD hS hv_89 dX12_selectOf_73 (fun H locs hP hD hS => ?_)
  refine lv_aload_n hx hb dX12_selectOf_74 rfl (lv_at hl 2 rfl) ?_
  refine fg_42 hx hb hts hown hK hP dX12_selectOf_75 ?_
  refine lv_iload_n hx hb dX12_selectOf_78 rfl (lv_at hl 1 rfl) ?_
  refine lv_iconst (v := 0) hx hb dX12_selectOf_79 (by decide) ?_
  obtain ⟨cs_90, hv_90, h⟩ := ob h
  refine ap_42 hx hb hK hP hD hS hv_90 dX12_selectOf_80 (fun H locs hP hD hS => ?_)
  refine lv_aload_n hx hb dX12_selectOf_81 rfl (lv_at hl 2 rfl) ?_
  refine fg_43 hx hb hts hown hK hP dX12_selectOf_82 ?_
  refine lv_iload_n hx hb dX12_selectOf_85 rfl (lv_at hl 1 rfl) ?_
  refine lv_iconst (v := (-1)) hx hb dX12_selectOf_86 (by decide) ?_
  obtain ⟨cs_91, hv_91, h⟩ := ob h
  refine ap_43 hx hb hK hP hD hS hv_91 dX12_selectOf_87 (fun H locs hP hD hS => ?_)
  refine lv_aload_n hx hb dX12_selectOf_88 rfl (lv_at hl 2 rfl) ?_
  refine fg_35 hx hb hts hown hK hP dX12_selectOf_89 ?_
  refine lv_iload_n hx hb dX12_selectOf_92 rfl (lv_at hl 1 rfl) ?_
  refine lv_aload_n hx hb dX12_selectOf_93 rfl (lv_at hl 2 rfl) ?_
  refine va_ldcSW (own := RX12) (index := 480) (tx := soT 4) (q := K 4) hx hb hown (hZ.ref 4 (by decide)) dX12_selectOf_94 ?_
  obtain ⟨v_92, hv_92, h⟩ := ob h
  refine calI (As := [.ref (K 4)]) hx hb hml hts hown hK hP hD hS hA hZ (s_isWord l dC dI cB cI cJ cZ h0 a K V fz F cs_91 4 (by decide) v_92 hv_92) (cw_isWord hts (fr := 7) (by show 7 + 1 ≤ n + 1 + 311; omega) (by show 8 + (2 + 11) + 60 * (7) ≤ 60 * (n + 1 + 311); omega)) rfl hl.1 (Nat.le_of_ble_eq_true rfl) ⟨Nat.zero_le _, Nat.zero_le _⟩ dX12_selectOf_97 (fun H locs hP hD hS => ?_)
  refine lv_if_eq (tgt := 115) hx hb dX12_selectOf_100 (by decide) (fun c_93 => ?_) (fun c_93 => ?_)
  · skip
    replace h := (if_pos c_93).symm.trans h
    refine lv_iconst (v := (-1)) hx hb dX12_selectOf_115 (by decide) ?_
    exact B_116 cs_91 (cs_83.1 34) ((setF cs_83 34 ((cs_83.1 34) + 1)).1 71) (-1) (cs_83.1 34) h _ _ _ hP hD hS (lv_sub hl [2, 1, 0] rfl)
  · skip
    replace h := (if_neg c_93).symm.trans h
    refine lv_aload_n hx hb dX12_selectOf_103 rfl (lv_at hl 2 rfl) ?_
    refine fg_15 hx hb hts hown hK hP dX12_selectOf_104 ?_
    refine lv_aload_n hx hb dX12_selectOf_107 rfl (lv_at hl 2 rfl) ?_
    refine fg_18 hx hb hts hown hK hP dX12_selectOf_108 ?_
    obtain ⟨v_94, hv_94, h⟩ := ob h
    refine ag_15 hx hb hK hP hv_94 dX12_selectOf_111 ?_
    refine lv_goto (tgt := 116) hx hb dX12_selectOf_112 (by decide) ?_
    exact B_116 cs_91 (cs_83.1 34) ((setF cs_83 34 ((cs_83.1 34) + 1)).1 71) v_94 (cs_83.1 34) h _ _ _ hP hD hS (lv_sub hl [2, 1, 0] rfl)
set_option maxHeartbeats 4000000 in
set_option maxRecDepth 100000 in
theorem sb_source (l : Launch) (dC : Nat → ClassId) (dI : Nat → Nat → Nat) (cB cI cJ cZ : ClassId) (h0 : Nat) (a : Nat → Nat) (K V : Nat → Nat) (fz : Value) (F : Nat) (n : Nat) (T : TG_queryOf) (hT_queryOf : ∀ (cs : RS) (cs9 : RS) (r9 : Int32), T.1 cs = some (cs9, r9) → okI l dC dI cB cI cJ cZ h0 a K V fz yX12_queryOf (wsOf yX12_queryOf cX12_queryOf 8 (some .int)) (n + 311) [.ref h0] cs cs9 r9) (hT_selectOf : ∀ (cs : RS) (cs9 : RS) (r9 : Int32), T.2.1 cs = some (cs9, r9) → okI l dC dI cB cI cJ cZ h0 a K V fz yX12_selectOf (wsOf yX12_selectOf cX12_selectOf 9 (some .int)) (n + 311) [.ref h0] cs cs9 r9) (hT_source : ∀ (cs : RS) (x1 : Int32) (x2 : Int32) (x3 : Int32) (cs9 : RS), T.2.2 cs x1 x2 x3 = some cs9 → okV l dC dI cB cI cJ cZ h0 a K V fz yX12_source (wsOf yX12_source cX12_source 7 none) (n + 311) [.ref h0, .int x1, .int x2, .int x3] cs cs9) (cs : RS) (x1 : Int32) (x2 : Int32) (x3 : Int32) (cs9 : RS) (hf : b_source F T cs x1 x2 x3 = some cs9) : okV l dC dI cB cI cJ cZ h0 a K V fz yX12_source (wsOf yX12_source cX12_source 7 none) (n + 1 + 311) [.ref h0, .int x1, .int x2, .int x3] cs cs9 := by
  intro sz
  refine Met.ofW (cc := cX12_source) (maxL := 7) (ret := none) (by decide) rfl ?_
  intro p e s m args below meth c s₁ B hml hv
  obtain ⟨rfl, hsz, hP, hK, hD0, hZ⟩ := hv
  have hx := B.exec
  have hb := B.bytes
  have hr := B.returns
  have hts := atoms_spec (ws := (wsOf yX12_source cX12_source 7 none)) B.pre
  have hown : s.vm.findClass RX12 = some m.cls := findClass_of_methodNamed B.named
  have hlocks := B.notSynchronized
  subst hsz
  have hD := hD0.self (sz := s.heap.size)
  generalize hAe : va_A (mW cB cI cJ cZ h0 a cs) s.heap.size = A at hD hZ ⊢
  have hA : ∀ q : Nat, s.heap.size ≤ q → A q := fun q h => by rw [← hAe]; exact Or.inr h
  have hS : va_S A s.heap s.heap [] := va_S.rf
  have hl := lv_entry ([.ref h0, .int x1, .int x2, .int x3]) (n := 7) (Nat.le_of_ble_eq_true rfl)
  rw [lg_entry_eq]
  generalize (lg_sl ([.ref h0, .int x1, .int x2, .int x3]) ++ List.replicate (7 - (lg_sl ([.ref h0, .int x1, .int x2, .int x3])).length) Slot.unset).toArray = ls at hl ⊢
  have hl : lv_has ls 7 [(0, .ref h0), (1, .int x1), (2, .int x2), (3, .int x3)] := hl
  have B_446 : ∀ (cs1 : RS) (u1 : Int32), m_source_b446 F T cs1 u1 = some cs9 → ∀ (H : Heap) (locs : List Loc) (ls : Array Slot), va_P (dC, dI) vwCl (mW cB cI cJ cZ h0 a cs1) H → va_D A (mW cB cI cJ cZ h0 a cs1) → va_S A s.heap H locs → lv_has ls 7 [(0, .ref h0), (1, .int u1)] → W p l e (headSpec (wsOf yX12_source cX12_source 7 none) ({ frames := n + 1 + 311, cells := 0, slots := 0, locals := 60 * (n + 1 + 311) } : Room)).room s m ([.ref h0, .int x1, .int x2, .int x3] : List Value).toArray below meth c H locs 0 0 (MQ below (va_Qv (fun (_ : Unit) => True) (fun _ t_ => va_P (dC, dI) vwCl (mW cB cI cJ cZ h0 a cs9) t_.heap ∧ va_D A (mW cB cI cJ cZ h0 a cs9)) A) ([.ref h0, .int x1, .int x2, .int x3] : List Value).toArray s 0 0 A) (F0 m 446 ls []) := by
    intro cs1 u1 h H locs ls hP hD hS hl
    unfold m_source_b446 at h
    refine lv_aload_n hx hb dX12_source_446 rfl (lv_at hl 0 rfl) ?_
    refine fg_37 hx hb hts hown hK hP dX12_source_447 ?_
    refine lv_iload_n hx hb dX12_source_450 rfl (lv_at hl 1 rfl) ?_
    refine lv_dup2_11 hx hb dX12_source_451 rfl rfl ?_
    obtain ⟨v_1, hv_1, h⟩ := ob h
    refine ag_37 hx hb hK hP hv_1 dX12_source_452 ?_
    refine lv_iconst (v := 1) hx hb dX12_source_453 (by decide) ?_
    refine lv_iadd hx hb dX12_source_454 ?_
    obtain ⟨cs_2, hv_2, h⟩ := ob h
    refine ap_37 hx hb hK hP hD hS hv_2 dX12_source_455 (fun H locs hP hD hS => ?_)
    have e1 := Option.some.inj h
    rw [e1] at hP hD
    exact W.vret hx hb hr (fun t_ ht hW => ⟨⟨(), rfl, trivial, by rw [ht]; exact hP, hD⟩, hS.F ht⟩) hS.2.2 dX12_source_456
  have B_322 : ∀ (cs1 : RS) (u1 : Int32) (u2 : Int32) (u3 : Int32) (u4 : Int32) (y0 : Int32), m_source_b322 F T cs1 u1 u2 u3 u4 y0 = some cs9 → ∀ (H : Heap) (locs : List Loc) (ls : Array Slot), va_P (dC, dI) vwCl (mW cB cI cJ cZ h0 a cs1) H → va_D A (mW cB cI cJ cZ h0 a cs1) → va_S A s.heap H locs → lv_has ls 7 [(0, .ref h0), (1, .int u1), (2, .int u2), (3, .int u3), (4, .int u4)] → W p l e (headSpec (wsOf yX12_source cX12_source 7 none) ({ frames := n + 1 + 311, cells := 0, slots := 0, locals := 60 * (n + 1 + 311) } : Room)).room s m ([.ref h0, .int x1, .int x2, .int x3] : List Value).toArray below meth c H locs 0 0 (MQ below (va_Qv (fun (_ : Unit) => True) (fun _ t_ => va_P (dC, dI) vwCl (mW cB cI cJ cZ h0 a cs9) t_.heap ∧ va_D A (mW cB cI cJ cZ h0 a cs9)) A) ([.ref h0, .int x1, .int x2, .int x3] : List Value).toArray s 0 0 A) (F0 m 322 ls [.int y0]) := by
    intro cs1 u1 u2 u3 u4 y0 h H locs ls hP hD hS hl
    unfold m_source_b322 at h
    refine lv_istore (lv' := [(5, .int y0), (0, .ref h0), (1, .int u1), (2, .int u2), (3, .int u3), (4, .int u4)]) hx hb dX12_source_322 hl (by decide) rfl (fun ls hl => ?_)
    refine lv_aload_n hx hb dX12_source_324 rfl (lv_at hl 1 rfl) ?_
    refine fg_21 hx hb hts hown hK hP dX12_source_325 ?_
    refine lv_if_ne (tgt := 332) hx hb dX12_source_328 (by decide) (fun c_3 => ?_) (fun c_3 => ?_)
    · skip
      replace h := (if_neg c_3).symm.trans h
      refine lv_aload_n hx hb dX12_source_332 rfl (lv_at hl 1 rfl) ?_
      refine fg_55 hx hb hts hown hK hP dX12_source_333 ?_
      refine lv_iload hx hb dX12_source_336 (lv_at hl 5 rfl) ?_
      refine lv_iload hx hb dX12_source_338 (lv_at hl 0 rfl) ?_
      obtain ⟨cs_4, hv_4, h⟩ := ob h
      refine ap_55 hx hb hK hP hD hS hv_4 dX12_source_340 (fun H locs hP hD hS => ?_)
      refine lv_aload_n hx hb dX12_source_341 rfl (lv_at hl 1 rfl) ?_
      refine fg_57 hx hb hts hown hK hP dX12_source_342 ?_
      refine lv_iload hx hb dX12_source_345 (lv_at hl 5 rfl) ?_
      refine lv_iload_n hx hb dX12_source_347 rfl (lv_at hl 4 rfl) ?_
      obtain ⟨cs_5, hv_5, h⟩ := ob h
      refine ap_57 hx hb hK hP hD hS hv_5 dX12_source_348 (fun H locs hP hD hS => ?_)
      refine lv_aload_n hx hb dX12_source_349 rfl (lv_at hl 1 rfl) ?_
      refine fg_58 hx hb hts hown hK hP dX12_source_350 ?_
      refine lv_iload hx hb dX12_source_353 (lv_at hl 5 rfl) ?_
      refine lv_iconst (v := (-1)) hx hb dX12_source_355 (by decide) ?_
      obtain ⟨cs_6, hv_6, h⟩ := ob h
      refine ap_58 hx hb hK hP hD hS hv_6 dX12_source_356 (fun H locs hP hD hS => ?_)
      refine lv_aload_n hx hb dX12_source_357 rfl (lv_at hl 1 rfl) ?_
      refine fg_51 hx hb hts hown hK hP dX12_source_358 ?_
      refine lv_iload hx hb dX12_source_361 (lv_at hl 5 rfl) ?_
      refine lv_iconst (v := 0) hx hb dX12_source_363 (by decide) ?_
      obtain ⟨cs_7, hv_7, h⟩ := ob h
      refine ap_51 hx hb hK hP hD hS hv_7 dX12_source_364 (fun H locs hP hD hS => ?_)
      refine lv_aload_n hx hb dX12_source_365 rfl (lv_at hl 1 rfl) ?_
      refine fg_56 hx hb hts hown hK hP dX12_source_366 ?_
      refine lv_iload hx hb dX12_source_369 (lv_at hl 5 rfl) ?_
      refine lv_iload_n hx hb dX12_source_371 rfl (lv_at hl 3 rfl) ?_
      obtain ⟨cs_8, hv_8, h⟩ := ob h
      refine ap_56 hx hb hK hP hD hS hv_8 dX12_source_372 (fun H locs hP hD hS => ?_)
      refine lv_aload_n hx hb dX12_source_373 rfl (lv_at hl 1 rfl) ?_
      refine fg_49 hx hb hts hown hK hP dX12_source_374 ?_
      refine lv_iload hx hb dX12_source_377 (lv_at hl 5 rfl) ?_
      obtain ⟨v_9, hv_9, h⟩ := ob h
      refine ag_49 hx hb hK hP hv_9 dX12_source_379 ?_
      refine lv_iconst (v := (-1)) hx hb dX12_source_380 (by decide) ?_
      refine lv_icmp_eq (tgt := 446) hx hb dX12_source_381 (by decide) (fun c_10 => ?_) (fun c_10 => ?_)
      · skip
        replace h := (if_pos c_10).symm.trans h
        exact B_446 cs_8 u1 h _ _ _ hP hD hS (lv_sub hl [1, 2] rfl)
      · skip
        replace h := (if_neg c_10).symm.trans h
        refine lv_aload_n hx hb dX12_source_384 rfl (lv_at hl 1 rfl) ?_
        refine va_ldcSW (own := RX12) (index := 506) (tx := soT 27) (q := K 27) hx hb hown (hZ.ref 27 (by decide)) dX12_source_385 ?_
        obtain ⟨z_11, hv_11, h⟩ := ob h
        refine calI (As := [.ref (K 27)]) hx hb hml hts hown hK hP hD hS hA hZ (s_takeWord l dC dI cB cI cJ cZ h0 a K V fz F cs_8 27 (by decide) z_11.1 z_11.2 hv_11) (cw_takeWord hts (fr := 8) (by show 8 + 1 ≤ n + 1 + 311; omega) (by show 8 + (3 + 11) + 60 * (8) ≤ 60 * (n + 1 + 311); omega)) rfl hl.1 (Nat.le_of_ble_eq_true rfl) ⟨Nat.zero_le _, Nat.zero_le _⟩ dX12_source_388 (fun H locs hP hD hS => ?_)
        refine lv_if_eq (tgt := 446) hx hb dX12_source_391 (by decide) (fun c_12 => ?_) (fun c_12 => ?_)
        · skip
          replace h := (if_pos c_12).symm.trans h
          exact B_446 z_11.1 u1 h _ _ _ hP hD hS (lv_sub hl [1, 2] rfl)
        · skip
          replace h := (if_neg c_12).symm.trans h
          refine lv_aload_n hx hb dX12_source_394 rfl (lv_at hl 1 rfl) ?_
          refine fg_14 hx hb hts hown hK hP dX12_source_395 ?_
          refine lv_aload_n hx hb dX12_source_398 rfl (lv_at hl 1 rfl) ?_
          refine fg_18 hx hb hts hown hK hP dX12_source_399 ?_
          obtain ⟨v_13, hv_13, h⟩ := ob h
          refine ag_14 hx hb hK hP hv_13 dX12_source_402 ?_
          refine lv_iconst (v := 2) hx hb dX12_source_403 (by decide) ?_
          refine lv_icmp_eq (tgt := 412) hx hb dX12_source_404 (by decide) (fun c_14 => ?_) (fun c_14 => ?_)
          · skip
            replace h := (if_pos c_14).symm.trans h
            refine lv_aload_n hx hb dX12_source_412 rfl (lv_at hl 1 rfl) ?_
            refine fg_51 hx hb hts hown hK hP dX12_source_413 ?_
            refine lv_iload hx hb dX12_source_416 (lv_at hl 5 rfl) ?_
            refine lv_iconst (v := 1) hx hb dX12_source_418 (by decide) ?_
            obtain ⟨cs_15, hv_15, h⟩ := ob h
            refine ap_51 hx hb hK hP hD hS hv_15 dX12_source_419 (fun H locs hP hD hS => ?_)
            refine lv_aload_n hx hb dX12_source_420 rfl (lv_at hl 1 rfl) ?_
            refine fg_52 hx hb hts hown hK hP dX12_source_421 ?_
            refine lv_iload hx hb dX12_source_424 (lv_at hl 5 rfl) ?_
            refine lv_aload_n hx hb dX12_source_426 rfl (lv_at hl 1 rfl) ?_
            refine fg_17 hx hb hts hown hK hP dX12_source_427 ?_
            refine lv_aload_n hx hb dX12_source_430 rfl (lv_at hl 1 rfl) ?_
            refine fg_18 hx hb hts hown hK hP dX12_source_431 ?_
            obtain ⟨v_16, hv_16, h⟩ := ob h
            refine ag_17 hx hb hK hP hv_16 dX12_source_434 ?_
            obtain ⟨cs_17, hv_17, h⟩ := ob h
            refine ap_52 hx hb hK hP hD hS hv_17 dX12_source_435 (fun H locs hP hD hS => ?_)
            refine lv_aload_n hx hb dX12_source_436 rfl (lv_at hl 1 rfl) ?_
            refine lv_dup hx hb dX12_source_437 rfl ?_
            refine fg_18 hx hb hts hown hK hP dX12_source_438 ?_
            refine lv_iconst (v := 1) hx hb dX12_source_441 (by decide) ?_
            refine lv_iadd hx hb dX12_source_442 ?_
            refine fp_18 hx hb hts hown hK hP hD hS dX12_source_443 (fun H locs hP hD hS => ?_)
            exact B_446 (setF cs_17 18 ((cs_17.1 18) + 1)) u1 h _ _ _ hP hD hS (lv_sub hl [1, 2] rfl)
          · skip
            replace h := (if_neg c_14).symm.trans h
            refine lv_aload_n hx hb dX12_source_407 rfl (lv_at hl 1 rfl) ?_
            obtain ⟨cs_18, hv_18, h⟩ := ob h
            refine calV (As := []) hx hb hml hts hown hK hP hD hS hA hZ (s_wrong l dC dI cB cI cJ cZ h0 a K V fz F z_11.1  cs_18 hv_18) (cw_wrong hts (fr := 1) (by show 1 + 1 ≤ n + 1 + 311; omega) (by show 8 + (1 + 11) + 60 * (1) ≤ 60 * (n + 1 + 311); omega)) rfl hl.1 (Nat.le_of_ble_eq_true rfl) ⟨Nat.zero_le _, Nat.zero_le _⟩ dX12_source_408 (fun H locs hP hD hS => ?_)
            have e1 := Option.some.inj h
            rw [e1] at hP hD
            exact W.vret hx hb hr (fun t_ ht hW => ⟨⟨(), rfl, trivial, by rw [ht]; exact hP, hD⟩, hS.F ht⟩) hS.2.2 dX12_source_411
    · skip
      replace h := (if_pos c_3).symm.trans h
      have e1 := Option.some.inj h
      rw [e1] at hP hD
      exact W.vret hx hb hr (fun t_ ht hW => ⟨⟨(), rfl, trivial, by rw [ht]; exact hP, hD⟩, hS.F ht⟩) hS.2.2 dX12_source_331
  have B_300 : ∀ (cs1 : RS) (u1 : Int32) (u2 : Int32) (u3 : Int32) (u4 : Int32), m_source_b300 F T cs1 u1 u2 u3 u4 = some cs9 → ∀ (H : Heap) (locs : List Loc) (ls : Array Slot), va_P (dC, dI) vwCl (mW cB cI cJ cZ h0 a cs1) H → va_D A (mW cB cI cJ cZ h0 a cs1) → va_S A s.heap H locs → lv_has ls 7 [(0, .ref h0), (1, .int u1), (2, .int u2), (3, .int u3), (4, .int u4)] → W p l e (headSpec (wsOf yX12_source cX12_source 7 none) ({ frames := n + 1 + 311, cells := 0, slots := 0, locals := 60 * (n + 1 + 311) } : Room)).room s m ([.ref h0, .int x1, .int x2, .int x3] : List Value).toArray below meth c H locs 0 0 (MQ below (va_Qv (fun (_ : Unit) => True) (fun _ t_ => va_P (dC, dI) vwCl (mW cB cI cJ cZ h0 a cs9) t_.heap ∧ va_D A (mW cB cI cJ cZ h0 a cs9)) A) ([.ref h0, .int x1, .int x2, .int x3] : List Value).toArray s 0 0 A) (F0 m 300 ls []) := by
    intro cs1 u1 u2 u3 u4 h H locs ls hP hD hS hl
    unfold m_source_b300 at h
    refine lv_aload_n hx hb dX12_source_300 rfl (lv_at hl 0 rfl) ?_
    refine va_ldcSW (own := RX12) (index := 482) (tx := soT 25) (q := K 25) hx hb hown (hZ.ref 25 (by decide)) dX12_source_301 ?_
    obtain ⟨cs_19, hv_19, h⟩ := ob h
    refine calV (As := [.ref (K 25)]) hx hb hml hts hown hK hP hD hS hA hZ (s_needWord l dC dI cB cI cJ cZ h0 a K V fz F cs1 25 (by decide) cs_19 hv_19) (cw_needWord hts (fr := 9) (by show 9 + 1 ≤ n + 1 + 311; omega) (by show 8 + (2 + 11) + 60 * (9) ≤ 60 * (n + 1 + 311); omega)) rfl hl.1 (Nat.le_of_ble_eq_true rfl) ⟨Nat.zero_le _, Nat.zero_le _⟩ dX12_source_304 (fun H locs hP hD hS => ?_)
    refine lv_aload_n hx hb dX12_source_307 rfl (lv_at hl 0 rfl) ?_
    refine fg_21 hx hb hts hown hK hP dX12_source_308 ?_
    refine lv_if_eq (tgt := 321) hx hb dX12_source_311 (by decide) (fun c_20 => ?_) (fun c_20 => ?_)
    · skip
      replace h := (if_pos c_20).symm.trans h
      refine lv_iconst (v := 0) hx hb dX12_source_321 (by decide) ?_
      exact B_322 cs_19 u1 u2 u3 u4 0 h _ _ _ hP hD hS (lv_sub hl [0, 1, 2, 3, 4] rfl)
    · skip
      replace h := (if_neg c_20).symm.trans h
      refine lv_aload_n hx hb dX12_source_314 rfl (lv_at hl 0 rfl) ?_
      obtain ⟨z_21, hv_21, h⟩ := ob h
      refine calI (As := []) hx hb hml hts hown hK hP hD hS hA hZ (s_name l dC dI cB cI cJ cZ h0 a K V fz F cs_19  z_21.1 z_21.2 hv_21) (cw_name hts (fr := 8) (by show 8 + 1 ≤ n + 1 + 311; omega) (by show 8 + (1 + 11) + 60 * (8) ≤ 60 * (n + 1 + 311); omega)) rfl hl.1 (Nat.le_of_ble_eq_true rfl) ⟨Nat.zero_le _, Nat.zero_le _⟩ dX12_source_315 (fun H locs hP hD hS => ?_)
      refine lv_goto (tgt := 322) hx hb dX12_source_318 (by decide) ?_
      exact B_322 z_21.1 u1 u2 u3 u4 z_21.2 h _ _ _ hP hD hS (lv_sub hl [0, 1, 2, 3, 4] rfl)
  have B_129 : ∀ (cs1 : RS) (u1 : Int32) (u2 : Int32) (u3 : Int32) (u4 : Int32), m_source_b129 F T cs1 u1 u2 u3 u4 = some cs9 → ∀ (H : Heap) (locs : List Loc) (ls : Array Slot), va_P (dC, dI) vwCl (mW cB cI cJ cZ h0 a cs1) H → va_D A (mW cB cI cJ cZ h0 a cs1) → va_S A s.heap H locs → lv_has ls 7 [(0, .ref h0), (1, .int u1), (2, .int u2), (3, .int u3), (4, .int u4)] → W p l e (headSpec (wsOf yX12_source cX12_source 7 none) ({ frames := n + 1 + 311, cells := 0, slots := 0, locals := 60 * (n + 1 + 311) } : Room)).room s m ([.ref h0, .int x1, .int x2, .int x3] : List Value).toArray below meth c H locs 0 0 (MQ below (va_Qv (fun (_ : Unit) => True) (fun _ t_ => va_P (dC, dI) vwCl (mW cB cI cJ cZ h0 a cs9) t_.heap ∧ va_D A (mW cB cI cJ cZ h0 a cs9)) A) ([.ref h0, .int x1, .int x2, .int x3] : List Value).toArray s 0 0 A) (F0 m 129 ls []) := by
    intro cs1 u1 u2 u3 u4 h H locs ls hP hD hS hl
    unfold m_source_b129 at h
    refine lv_goto (tgt := 300) hx hb dX12_source_129 (by decide) ?_
    exact B_300 cs1 u1 u2 u3 u4 h _ _ _ hP hD hS (lv_sub hl [0, 1, 2, 3, 4] rfl)
  have B_67 : ∀ (cs1 : RS) (u1 : Int32) (u2 : Int32) (u3 : Int32) (u4 : Int32) (y0 : Int32), m_source_b67 F T cs1 u1 u2 u3 u4 y0 = some cs9 → ∀ (H : Heap) (locs : List Loc) (ls : Array Slot), va_P (dC, dI) vwCl (mW cB cI cJ cZ h0 a cs1) H → va_D A (mW cB cI cJ cZ h0 a cs1) → va_S A s.heap H locs → lv_has ls 7 [(0, .ref h0), (1, .int u1), (2, .int u2), (3, .int u3), (4, .int u4)] → W p l e (headSpec (wsOf yX12_source cX12_source 7 none) ({ frames := n + 1 + 311, cells := 0, slots := 0, locals := 60 * (n + 1 + 311) } : Room)).room s m ([.ref h0, .int x1, .int x2, .int x3] : List Value).toArray below meth c H locs 0 0 (MQ below (va_Qv (fun (_ : Unit) => True) (fun _ t_ => va_P (dC, dI) vwCl (mW cB cI cJ cZ h0 a cs9) t_.heap ∧ va_D A (mW cB cI cJ cZ h0 a cs9)) A) ([.ref h0, .int x1, .int x2, .int x3] : List Value).toArray s 0 0 A) (F0 m 67 ls [.int y0]) := by
    intro cs1 u1 u2 u3 u4 y0 h H locs ls hP hD hS hl
    unfold m_source_b67 at h
    refine lv_istore (lv' := [(5, .int y0), (0, .ref h0), (1, .int u1), (2, .int u2), (3, .int u3), (4, .int u4)]) hx hb dX12_source_67 hl (by decide) rfl (fun ls hl => ?_)
    refine lv_aload_n hx hb dX12_source_69 rfl (lv_at hl 1 rfl) ?_
    refine lv_dup hx hb dX12_source_70 rfl ?_
    refine fg_70 hx hb hts hown hK hP dX12_source_71 ?_
    refine lv_iconst (v := 1) hx hb dX12_source_74 (by decide) ?_
    refine lv_isub hx hb dX12_source_75 ?_
    refine fp_70 hx hb hts hown hK hP hD hS dX12_source_76 (fun H locs hP hD hS => ?_)
    refine lv_aload_n hx hb dX12_source_79 rfl (lv_at hl 1 rfl) ?_
    refine fg_15 hx hb hts hown hK hP dX12_source_80 ?_
    refine lv_aload_n hx hb dX12_source_83 rfl (lv_at hl 1 rfl) ?_
    refine fg_18 hx hb hts hown hK hP dX12_source_84 ?_
    obtain ⟨v_22, hv_22, h⟩ := ob h
    refine ag_15 hx hb hK hP hv_22 dX12_source_87 ?_
    refine lv_istore (lv' := [(6, .int v_22), (5, .int y0), (0, .ref h0), (1, .int u1), (2, .int u2), (3, .int u3), (4, .int u4)]) hx hb dX12_source_88 hl (by decide) rfl (fun ls hl => ?_)
    refine lv_aload_n hx hb dX12_source_90 rfl (lv_at hl 2 rfl) ?_
    refine lv_bipush (v := 41) hx hb dX12_source_91 (by decide) ?_
    obtain ⟨cs_23, hv_23, h⟩ := ob h
    refine calV (As := [.int 41]) hx hb hml hts hown hK hP hD hS hA hZ (s_needSign l dC dI cB cI cJ cZ h0 a K V fz F (setF cs1 70 ((cs1.1 70) - 1)) 41 cs_23 hv_23) (cw_needSign hts (fr := 2) (by show 2 + 1 ≤ n + 1 + 311; omega) (by show 8 + (2 + 11) + 60 * (2) ≤ 60 * (n + 1 + 311); omega)) rfl hl.1 (Nat.le_of_ble_eq_true rfl) ⟨Nat.zero_le _, Nat.zero_le _⟩ dX12_source_93 (fun H locs hP hD hS => ?_)
    refine lv_aload_n hx hb dX12_source_96 rfl (lv_at hl 2 rfl) ?_
    refine fg_21 hx hb hts hown hK hP dX12_source_97 ?_
    refine lv_if_eq (tgt := 129) hx hb dX12_source_100 (by decide) (fun c_24 => ?_) (fun c_24 => ?_)
    · skip
      replace h := (if_pos c_24).symm.trans h
      exact B_129 cs_23 u1 u2 u3 u4 h _ _ _ hP hD hS (lv_sub hl [2, 3, 4, 5, 6] rfl)
    · skip
      replace h := (if_neg c_24).symm.trans h
      refine lv_aload_n hx hb dX12_source_103 rfl (lv_at hl 2 rfl) ?_
      refine fg_49 hx hb hts hown hK hP dX12_source_104 ?_
      refine lv_iload hx hb dX12_source_107 (lv_at hl 6 rfl) ?_
      refine lv_iconst (v := (-1)) hx hb dX12_source_109 (by decide) ?_
      obtain ⟨cs_25, hv_25, h⟩ := ob h
      refine ap_49 hx hb hK hP hD hS hv_25 dX12_source_110 (fun H locs hP hD hS => ?_)
      refine lv_aload_n hx hb dX12_source_111 rfl (lv_at hl 2 rfl) ?_
      refine fg_53 hx hb hts hown hK hP dX12_source_112 ?_
      refine lv_iload hx hb dX12_source_115 (lv_at hl 6 rfl) ?_
      refine lv_iload hx hb dX12_source_117 (lv_at hl 1 rfl) ?_
      obtain ⟨cs_26, hv_26, h⟩ := ob h
      refine ap_53 hx hb hK hP hD hS hv_26 dX12_source_119 (fun H locs hP hD hS => ?_)
      refine lv_aload_n hx hb dX12_source_120 rfl (lv_at hl 2 rfl) ?_
      refine fg_54 hx hb hts hown hK hP dX12_source_121 ?_
      refine lv_iload hx hb dX12_source_124 (lv_at hl 6 rfl) ?_
      refine lv_iload hx hb dX12_source_126 (lv_at hl 0 rfl) ?_
      obtain ⟨cs_27, hv_27, h⟩ := ob h
      refine ap_54 hx hb hK hP hD hS hv_27 dX12_source_128 (fun H locs hP hD hS => ?_)
      exact B_129 cs_27 u1 u2 u3 u4 h _ _ _ hP hD hS (lv_sub hl [2, 3, 4, 5, 6] rfl)
  have B_226 : ∀ (cs1 : RS) (u1 : Int32) (u2 : Int32) (u3 : Int32) (u4 : Int32), m_source_b226 F T cs1 u1 u2 u3 u4 = some cs9 → ∀ (H : Heap) (locs : List Loc) (ls : Array Slot), va_P (dC, dI) vwCl (mW cB cI cJ cZ h0 a cs1) H → va_D A (mW cB cI cJ cZ h0 a cs1) → va_S A s.heap H locs → lv_has ls 7 [(0, .ref h0), (1, .int u1), (2, .int u2), (3, .int u3), (4, .int u4)] → W p l e (headSpec (wsOf yX12_source cX12_source 7 none) ({ frames := n + 1 + 311, cells := 0, slots := 0, locals := 60 * (n + 1 + 311) } : Room)).room s m ([.ref h0, .int x1, .int x2, .int x3] : List Value).toArray below meth c H locs 0 0 (MQ below (va_Qv (fun (_ : Unit) => True) (fun _ t_ => va_P (dC, dI) vwCl (mW cB cI cJ cZ h0 a cs9) t_.heap ∧ va_D A (mW cB cI cJ cZ h0 a cs9)) A) ([.ref h0, .int x1, .int x2, .int x3] : List Value).toArray s 0 0 A) (F0 m 226 ls []) := by
    intro cs1 u1 u2 u3 u4 h H locs ls hP hD hS hl
    unfold m_source_b226 at h
    refine lv_aload_n hx hb dX12_source_226 rfl (lv_at hl 0 rfl) ?_
    refine fg_21 hx hb hts hown hK hP dX12_source_227 ?_
    refine lv_if_eq (tgt := 300) hx hb dX12_source_230 (by decide) (fun c_28 => ?_) (fun c_28 => ?_)
    · skip
      replace h := (if_pos c_28).symm.trans h
      exact B_300 cs1 u1 u2 u3 u4 h _ _ _ hP hD hS (lv_sub hl [0, 1, 2, 3, 4] rfl)
    · skip
      replace h := (if_neg c_28).symm.trans h
      refine lv_aload_n hx hb dX12_source_233 rfl (lv_at hl 0 rfl) ?_
      refine fg_49 hx hb hts hown hK hP dX12_source_234 ?_
      refine lv_iload hx hb dX12_source_237 (lv_at hl 4 rfl) ?_
      refine lv_aload_n hx hb dX12_source_239 rfl (lv_at hl 0 rfl) ?_
      refine fg_2 hx hb hts hown hK hP dX12_source_240 ?_
      refine lv_aload_n hx hb dX12_source_243 rfl (lv_at hl 0 rfl) ?_
      refine fg_15 hx hb hts hown hK hP dX12_source_244 ?_
      refine lv_aload_n hx hb dX12_source_247 rfl (lv_at hl 0 rfl) ?_
      refine fg_18 hx hb hts hown hK hP dX12_source_248 ?_
      obtain ⟨v_29, hv_29, h⟩ := ob h
      refine ag_15 hx hb hK hP hv_29 dX12_source_251 ?_
      refine lv_iconst (v := 1) hx hb dX12_source_252 (by decide) ?_
      refine lv_iadd hx hb dX12_source_253 ?_
      obtain ⟨v_30, hv_30, h⟩ := ob h
      refine ag_2 hx hb hK hP hv_30 dX12_source_254 ?_
      refine lv_bipush (v := 48) hx hb dX12_source_255 (by decide) ?_
      refine lv_isub hx hb dX12_source_257 ?_
      obtain ⟨cs_31, hv_31, h⟩ := ob h
      refine ap_49 hx hb hK hP hD hS hv_31 dX12_source_258 (fun H locs hP hD hS => ?_)
      refine lv_aload_n hx hb dX12_source_259 rfl (lv_at hl 0 rfl) ?_
      refine fg_50 hx hb hts hown hK hP dX12_source_260 ?_
      refine lv_iload hx hb dX12_source_263 (lv_at hl 4 rfl) ?_
      refine lv_aload_n hx hb dX12_source_265 rfl (lv_at hl 0 rfl) ?_
      refine fg_15 hx hb hts hown hK hP dX12_source_266 ?_
      refine lv_aload_n hx hb dX12_source_269 rfl (lv_at hl 0 rfl) ?_
      refine fg_18 hx hb hts hown hK hP dX12_source_270 ?_
      obtain ⟨v_32, hv_32, h⟩ := ob h
      refine ag_15 hx hb hK hP hv_32 dX12_source_273 ?_
      obtain ⟨cs_33, hv_33, h⟩ := ob h
      refine ap_50 hx hb hK hP hD hS hv_33 dX12_source_274 (fun H locs hP hD hS => ?_)
      refine lv_aload_n hx hb dX12_source_275 rfl (lv_at hl 0 rfl) ?_
      refine fg_53 hx hb hts hown hK hP dX12_source_276 ?_
      refine lv_iload hx hb dX12_source_279 (lv_at hl 4 rfl) ?_
      refine lv_iconst (v := (-1)) hx hb dX12_source_281 (by decide) ?_
      obtain ⟨cs_34, hv_34, h⟩ := ob h
      refine ap_53 hx hb hK hP hD hS hv_34 dX12_source_282 (fun H locs hP hD hS => ?_)
      refine lv_aload_n hx hb dX12_source_283 rfl (lv_at hl 0 rfl) ?_
      refine lv_dup hx hb dX12_source_284 rfl ?_
      refine fg_18 hx hb hts hown hK hP dX12_source_285 ?_
      refine lv_iconst (v := 1) hx hb dX12_source_288 (by decide) ?_
      refine lv_iadd hx hb dX12_source_289 ?_
      refine fp_18 hx hb hts hown hK hP hD hS dX12_source_290 (fun H locs hP hD hS => ?_)
      refine lv_goto (tgt := 300) hx hb dX12_source_293 (by decide) ?_
      exact B_300 (setF cs_34 18 ((cs_34.1 18) + 1)) u1 u2 u3 u4 h _ _ _ hP hD hS (lv_sub hl [0, 1, 2, 3, 4] rfl)
  have B_296 : ∀ (cs1 : RS) (u1 : Int32) (u2 : Int32) (u3 : Int32) (u4 : Int32), m_source_b296 F T cs1 u1 u2 u3 u4 = some cs9 → ∀ (H : Heap) (locs : List Loc) (ls : Array Slot), va_P (dC, dI) vwCl (mW cB cI cJ cZ h0 a cs1) H → va_D A (mW cB cI cJ cZ h0 a cs1) → va_S A s.heap H locs → lv_has ls 7 [(0, .ref h0), (1, .int u1), (2, .int u2), (3, .int u3), (4, .int u4)] → W p l e (headSpec (wsOf yX12_source cX12_source 7 none) ({ frames := n + 1 + 311, cells := 0, slots := 0, locals := 60 * (n + 1 + 311) } : Room)).room s m ([.ref h0, .int x1, .int x2, .int x3] : List Value).toArray below meth c H locs 0 0 (MQ below (va_Qv (fun (_ : Unit) => True) (fun _ t_ => va_P (dC, dI) vwCl (mW cB cI cJ cZ h0 a cs9) t_.heap ∧ va_D A (mW cB cI cJ cZ h0 a cs9)) A) ([.ref h0, .int x1, .int x2, .int x3] : List Value).toArray s 0 0 A) (F0 m 296 ls []) := by
    intro cs1 u1 u2 u3 u4 h H locs ls hP hD hS hl
    unfold m_source_b296 at h
    refine lv_aload_n hx hb dX12_source_296 rfl (lv_at hl 0 rfl) ?_
    obtain ⟨cs_35, hv_35, h⟩ := ob h
    refine calV (As := []) hx hb hml hts hown hK hP hD hS hA hZ (s_wrong l dC dI cB cI cJ cZ h0 a K V fz F cs1  cs_35 hv_35) (cw_wrong hts (fr := 1) (by show 1 + 1 ≤ n + 1 + 311; omega) (by show 8 + (1 + 11) + 60 * (1) ≤ 60 * (n + 1 + 311); omega)) rfl hl.1 (Nat.le_of_ble_eq_true rfl) ⟨Nat.zero_le _, Nat.zero_le _⟩ dX12_source_297 (fun H locs hP hD hS => ?_)
    exact B_300 cs_35 u1 u2 u3 u4 h _ _ _ hP hD hS (lv_sub hl [0, 1, 2, 3, 4] rfl)
  have h := hf
  unfold b_source at h
  refine lv_aload_n hx hb dX12_source_0 rfl (lv_at hl 0 rfl) ?_
  refine fg_21 hx hb hts hown hK hP dX12_source_1 ?_
  refine lv_if_ne (tgt := 8) hx hb dX12_source_4 (by decide) (fun c_36 => ?_) (fun c_36 => ?_)
  · skip
    replace h := (if_neg c_36).symm.trans h
    refine lv_iconst (v := 3) hx hb dX12_source_8 (by decide) ?_
    refine lv_iload_n hx hb dX12_source_9 rfl (lv_at hl 1 rfl) ?_
    refine lv_imul hx hb dX12_source_10 ?_
    refine lv_aload_n hx hb dX12_source_11 rfl (lv_at hl 0 rfl) ?_
    refine fg_37 hx hb hts hown hK hP dX12_source_12 ?_
    refine lv_iload_n hx hb dX12_source_15 rfl (lv_at hl 1 rfl) ?_
    obtain ⟨v_37, hv_37, h⟩ := ob h
    refine ag_37 hx hb hK hP hv_37 dX12_source_16 ?_
    refine lv_iadd hx hb dX12_source_17 ?_
    refine lv_istore (lv' := [(4, .int ((3 * x1) + v_37)), (0, .ref h0), (1, .int x1), (2, .int x2), (3, .int x3)]) hx hb dX12_source_18 hl (by decide) rfl (fun ls hl => ?_)
    refine lv_aload_n hx hb dX12_source_20 rfl (lv_at hl 1 rfl) ?_
    refine lv_bipush (v := 40) hx hb dX12_source_21 (by decide) ?_
    obtain ⟨v_38, hv_38, h⟩ := ob h
    refine calI (As := [.int 40]) hx hb hml hts hown hK hP hD hS hA hZ (s_isSign l dC dI cB cI cJ cZ h0 a K V fz F cs 40 v_38 hv_38) (cw_isSign hts (fr := 0) (by show 0 + 1 ≤ n + 1 + 311; omega) (by show 8 + (2 + 11) + 60 * (0) ≤ 60 * (n + 1 + 311); omega)) rfl hl.1 (Nat.le_of_ble_eq_true rfl) ⟨Nat.zero_le _, Nat.zero_le _⟩ dX12_source_23 (fun H locs hP hD hS => ?_)
    refine lv_if_eq (tgt := 132) hx hb dX12_source_26 (by decide) (fun c_39 => ?_) (fun c_39 => ?_)
    · skip
      replace h := (if_pos c_39).symm.trans h
      refine lv_aload_n hx hb dX12_source_132 rfl (lv_at hl 1 rfl) ?_
      obtain ⟨v_40, hv_40, h⟩ := ob h
      refine calI (As := []) hx hb hml hts hown hK hP hD hS hA hZ (s_isName l dC dI cB cI cJ cZ h0 a K V fz F cs  v_40 hv_40) (cw_isName hts (fr := 7) (by show 7 + 1 ≤ n + 1 + 311; omega) (by show 8 + (1 + 11) + 60 * (7) ≤ 60 * (n + 1 + 311); omega)) rfl hl.1 (Nat.le_of_ble_eq_true rfl) ⟨Nat.zero_le _, Nat.zero_le _⟩ dX12_source_133 (fun H locs hP hD hS => ?_)
      refine lv_if_eq (tgt := 296) hx hb dX12_source_136 (by decide) (fun c_41 => ?_) (fun c_41 => ?_)
      · skip
        replace h := (if_pos c_41).symm.trans h
        exact B_296 cs x1 x2 x3 ((3 * x1) + v_37) h _ _ _ hP hD hS (lv_sub hl [1, 2, 3, 4, 0] rfl)
      · skip
        replace h := (if_neg c_41).symm.trans h
        refine lv_aload_n hx hb dX12_source_139 rfl (lv_at hl 1 rfl) ?_
        refine fg_16 hx hb hts hown hK hP dX12_source_140 ?_
        refine lv_aload_n hx hb dX12_source_143 rfl (lv_at hl 1 rfl) ?_
        refine fg_18 hx hb hts hown hK hP dX12_source_144 ?_
        obtain ⟨v_42, hv_42, h⟩ := ob h
        refine ag_16 hx hb hK hP hv_42 dX12_source_147 ?_
        refine lv_iconst (v := 2) hx hb dX12_source_148 (by decide) ?_
        refine lv_icmp_ne (tgt := 296) hx hb dX12_source_149 (by decide) (fun c_43 => ?_) (fun c_43 => ?_)
        · skip
          replace h := (if_neg c_43).symm.trans h
          exact B_296 cs x1 x2 x3 ((3 * x1) + v_37) h _ _ _ hP hD hS (lv_sub hl [1, 2, 3, 4, 0] rfl)
        · skip
          replace h := (if_pos c_43).symm.trans h
          refine lv_aload_n hx hb dX12_source_152 rfl (lv_at hl 1 rfl) ?_
          refine fg_2 hx hb hts hown hK hP dX12_source_153 ?_
          refine lv_aload_n hx hb dX12_source_156 rfl (lv_at hl 1 rfl) ?_
          refine fg_15 hx hb hts hown hK hP dX12_source_157 ?_
          refine lv_aload_n hx hb dX12_source_160 rfl (lv_at hl 1 rfl) ?_
          refine fg_18 hx hb hts hown hK hP dX12_source_161 ?_
          obtain ⟨v_44, hv_44, h⟩ := ob h
          refine ag_15 hx hb hK hP hv_44 dX12_source_164 ?_
          obtain ⟨v_45, hv_45, h⟩ := ob h
          refine ag_2 hx hb hK hP hv_45 dX12_source_165 ?_
          refine lv_bipush (v := 115) hx hb dX12_source_166 (by decide) ?_
          refine lv_icmp_ne (tgt := 296) hx hb dX12_source_168 (by decide) (fun c_46 => ?_) (fun c_46 => ?_)
          · skip
            replace h := (if_neg c_46).symm.trans h
            exact B_296 cs x1 x2 x3 ((3 * x1) + v_37) h _ _ _ hP hD hS (lv_sub hl [1, 2, 3, 4, 0] rfl)
          · skip
            replace h := (if_pos c_46).symm.trans h
            refine lv_aload_n hx hb dX12_source_171 rfl (lv_at hl 1 rfl) ?_
            refine fg_2 hx hb hts hown hK hP dX12_source_172 ?_
            refine lv_aload_n hx hb dX12_source_175 rfl (lv_at hl 1 rfl) ?_
            refine fg_15 hx hb hts hown hK hP dX12_source_176 ?_
            refine lv_aload_n hx hb dX12_source_179 rfl (lv_at hl 1 rfl) ?_
            refine fg_18 hx hb hts hown hK hP dX12_source_180 ?_
            obtain ⟨v_47, hv_47, h⟩ := ob h
            refine ag_15 hx hb hK hP hv_47 dX12_source_183 ?_
            refine lv_iconst (v := 1) hx hb dX12_source_184 (by decide) ?_
            refine lv_iadd hx hb dX12_source_185 ?_
            obtain ⟨v_48, hv_48, h⟩ := ob h
            refine ag_2 hx hb hK hP hv_48 dX12_source_186 ?_
            obtain ⟨v_49, hv_49, h⟩ := ob h
            refine calSI (As := [.int v_48]) hx hb hml hts hown hK hP hD hS hA hZ (s_isDigit l dC dI cB cI cJ cZ h0 a K V fz F cs v_48 v_49 hv_49) (cw_isDigit hts (fr := 0) (by show 0 + 1 ≤ n + 1 + 311; omega) (by show 8 + (1 + 11) + 60 * (0) ≤ 60 * (n + 1 + 311); omega)) rfl hl.1 (Nat.le_of_ble_eq_true rfl) ⟨Nat.zero_le _, Nat.zero_le _⟩ dX12_source_187 (fun H locs hP hD hS => ?_)
            refine lv_if_eq (tgt := 296) hx hb dX12_source_190 (by decide) (fun c_50 => ?_) (fun c_50 => ?_)
            · skip
              replace h := (if_pos c_50).symm.trans h
              exact B_296 cs x1 x2 x3 ((3 * x1) + v_37) h _ _ _ hP hD hS (lv_sub hl [1, 2, 3, 4, 0] rfl)
            · skip
              replace h := (if_neg c_50).symm.trans h
              refine lv_aload_n hx hb dX12_source_193 rfl (lv_at hl 1 rfl) ?_
              refine lv_dup hx hb dX12_source_194 rfl ?_
              refine fg_69 hx hb hts hown hK hP dX12_source_195 ?_
              refine lv_iconst (v := 1) hx hb dX12_source_198 (by decide) ?_
              refine lv_iadd hx hb dX12_source_199 ?_
              refine fp_69 hx hb hts hown hK hP hD hS dX12_source_200 (fun H locs hP hD hS => ?_)
              refine lv_aload_n hx hb dX12_source_203 rfl (lv_at hl 1 rfl) ?_
              refine fg_69 hx hb hts hown hK hP dX12_source_204 ?_
              refine lv_iconst (v := 4) hx hb dX12_source_207 (by decide) ?_
              refine lv_icmp_ne (tgt := 226) hx hb dX12_source_208 (by decide) (fun c_51 => ?_) (fun c_51 => ?_)
              · skip
                replace h := (if_neg c_51).symm.trans h
                exact B_226 (setF cs 69 ((cs.1 69) + 1)) x1 x2 x3 ((3 * x1) + v_37) h _ _ _ hP hD hS (lv_sub hl [1, 2, 3, 4, 0] rfl)
              · skip
                replace h := (if_pos c_51).symm.trans h
                refine lv_aload_n hx hb dX12_source_211 rfl (lv_at hl 1 rfl) ?_
                refine lv_bipush (v := 7) hx hb dX12_source_212 (by decide) ?_
                refine lv_aload_n hx hb dX12_source_214 rfl (lv_at hl 1 rfl) ?_
                refine fg_15 hx hb hts hown hK hP dX12_source_215 ?_
                refine lv_aload_n hx hb dX12_source_218 rfl (lv_at hl 1 rfl) ?_
                refine fg_18 hx hb hts hown hK hP dX12_source_219 ?_
                obtain ⟨v_52, hv_52, h⟩ := ob h
                refine ag_15 hx hb hK hP hv_52 dX12_source_222 ?_
                obtain ⟨cs_53, hv_53, h⟩ := ob h
                refine calV (As := [.int 7, .int v_52]) hx hb hml hts hown hK hP hD hS hA hZ (s_tell l dC dI cB cI cJ cZ h0 a K V fz F (setF cs 69 ((cs.1 69) + 1)) 7 v_52 cs_53 hv_53) (cw_tell hts (fr := 0) (by show 0 + 1 ≤ n + 1 + 311; omega) (by show 8 + (3 + 11) + 60 * (0) ≤ 60 * (n + 1 + 311); omega)) rfl hl.1 (Nat.le_of_ble_eq_true rfl) ⟨Nat.zero_le _, Nat.zero_le _⟩ dX12_source_223 (fun H locs hP hD hS => ?_)
                exact B_226 cs_53 x1 x2 x3 ((3 * x1) + v_37) h _ _ _ hP hD hS (lv_sub hl [1, 2, 3, 4, 0] rfl)
    · skip
      replace h := (if_neg c_39).symm.trans h
      refine lv_aload_n hx hb dX12_source_29 rfl (lv_at hl 1 rfl) ?_
      refine lv_aload_n hx hb dX12_source_30 rfl (lv_at hl 1 rfl) ?_
      refine fg_15 hx hb hts hown hK hP dX12_source_31 ?_
      refine lv_aload_n hx hb dX12_source_34 rfl (lv_at hl 1 rfl) ?_
      refine fg_18 hx hb hts hown hK hP dX12_source_35 ?_
      obtain ⟨v_54, hv_54, h⟩ := ob h
      refine ag_15 hx hb hK hP hv_54 dX12_source_38 ?_
      obtain ⟨cs_55, hv_55, h⟩ := ob h
      refine calV (As := [.int v_54]) hx hb hml hts hown hK hP hD hS hA hZ (s_deeper l dC dI cB cI cJ cZ h0 a K V fz F cs v_54 cs_55 hv_55) (cw_deeper hts (fr := 1) (by show 1 + 1 ≤ n + 1 + 311; omega) (by show 8 + (2 + 11) + 60 * (1) ≤ 60 * (n + 1 + 311); omega)) rfl hl.1 (Nat.le_of_ble_eq_true rfl) ⟨Nat.zero_le _, Nat.zero_le _⟩ dX12_source_39 (fun H locs hP hD hS => ?_)
      refine lv_aload_n hx hb dX12_source_42 rfl (lv_at hl 1 rfl) ?_
      refine lv_dup hx hb dX12_source_43 rfl ?_
      refine fg_18 hx hb hts hown hK hP dX12_source_44 ?_
      refine lv_iconst (v := 1) hx hb dX12_source_47 (by decide) ?_
      refine lv_iadd hx hb dX12_source_48 ?_
      refine fp_18 hx hb hts hown hK hP hD hS dX12_source_49 (fun H locs hP hD hS => ?_)
      refine lv_aload_n hx hb dX12_source_52 rfl (lv_at hl 1 rfl) ?_
      refine fg_21 hx hb hts hown hK hP dX12_source_53 ?_
      refine lv_if_eq (tgt := 66) hx hb dX12_source_56 (by decide) (fun c_56 => ?_) (fun c_56 => ?_)
      · skip
        replace h := (if_pos c_56).symm.trans h
        refine lv_iconst (v := 0) hx hb dX12_source_66 (by decide) ?_
        exact B_67 (setF cs_55 18 ((cs_55.1 18) + 1)) x1 x2 x3 ((3 * x1) + v_37) 0 h _ _ _ hP hD hS (lv_sub hl [1, 2, 3, 4, 0] rfl)
      · skip
        replace h := (if_neg c_56).symm.trans h
        refine lv_aload_n hx hb dX12_source_59 rfl (lv_at hl 1 rfl) ?_
        obtain ⟨z_57, hv_57, h⟩ := ob h
        refine calI (As := []) hx hb hml hts hown hK hP hD hS hA hZ (hT_queryOf (setF cs_55 18 ((cs_55.1 18) + 1))  z_57.1 z_57.2 hv_57) (cw_queryOf hts (fr := n + 311) (by show n + 311 + 1 ≤ n + 1 + 311; omega) (by show 8 + (8 + 11) + 60 * (n + 311) ≤ 60 * (n + 1 + 311); omega)) rfl hl.1 (Nat.le_of_ble_eq_true rfl) ⟨Nat.zero_le _, Nat.zero_le _⟩ dX12_source_60 (fun H locs hP hD hS => ?_)
        refine lv_goto (tgt := 67) hx hb dX12_source_63 (by decide) ?_
        exact B_67 z_57.1 x1 x2 x3 ((3 * x1) + v_37) z_57.2 h _ _ _ hP hD hS (lv_sub hl [1, 2, 3, 4, 0] rfl)
  · skip
    replace h := (if_pos c_36).symm.trans h
    have e1 := Option.some.inj h
    rw [e1] at hP hD
    exact W.vret hx hb hr (fun t_ ht hW => ⟨⟨(), rfl, trivial, by rw [ht]; exact hP, hD⟩, hS.F ht⟩) hS.2.2 dX12_source_7
theorem sg_queryOf (l : Launch) (dC : Nat → ClassId) (dI : Nat → Nat → Nat) (cB cI cJ cZ : ClassId) (h0 : Nat) (a : Nat → Nat) (K V : Nat → Nat) (fz : Value) (F : Nat) : ∀ n : Nat, (∀ (cs : RS) (cs9 : RS) (r9 : Int32), (tab_queryOf F n).1 cs = some (cs9, r9) → okI l dC dI cB cI cJ cZ h0 a K V fz yX12_queryOf (wsOf yX12_queryOf cX12_queryOf 8 (some .int)) (n + 311) [.ref h0] cs cs9 r9) ∧ (∀ (cs : RS) (cs9 : RS) (r9 : Int32), (tab_queryOf F n).2.1 cs = some (cs9, r9) → okI l dC dI cB cI cJ cZ h0 a K V fz yX12_selectOf (wsOf yX12_selectOf cX12_selectOf 9 (some .int)) (n + 311) [.ref h0] cs cs9 r9) ∧ (∀ (cs : RS) (x1 : Int32) (x2 : Int32) (x3 : Int32) (cs9 : RS), (tab_queryOf F n).2.2 cs x1 x2 x3 = some cs9 → okV l dC dI cB cI cJ cZ h0 a K V fz yX12_source (wsOf yX12_source cX12_source 7 none) (n + 311) [.ref h0, .int x1, .int x2, .int x3] cs cs9) := by
  intro n
  induction n with
  | zero => exact ⟨fun _ _ _ h => (by cases (show (none : Option (RS × Int32)) = _ from h)), fun _ _ _ h => (by cases (show (none : Option (RS × Int32)) = _ from h)), fun _ _ _ _ _ h => (by cases (show (none : Option RS) = _ from h))⟩
  | succ n ih =>
    obtain ⟨hh0, hh1, hh2⟩ := ih
    exact ⟨fun cs w0 w1 hf => sb_queryOf l dC dI cB cI cJ cZ h0 a K V fz F n (tab_queryOf F n) hh0 hh1 hh2 cs  w0 w1 hf, fun cs w0 w1 hf => sb_selectOf l dC dI cB cI cJ cZ h0 a K V fz F n (tab_queryOf F n) hh0 hh1 hh2 cs  w0 w1 hf, fun cs w0 w1 w2 w3 hf => sb_source l dC dI cB cI cJ cZ h0 a K V fz F n (tab_queryOf F n) hh0 hh1 hh2 cs w0 w1 w2 w3 hf⟩
def m_queryOf (F n : Nat) (cs : RS) : Option (RS × Int32) := (tab_queryOf F n).1 cs
theorem s_queryOf (l : Launch) (dC : Nat → ClassId) (dI : Nat → Nat → Nat) (cB cI cJ cZ : ClassId) (h0 : Nat) (a : Nat → Nat) (K V : Nat → Nat) (fz : Value) (F n : Nat) (cs : RS) (cs9 : RS) (r9 : Int32) (hf : m_queryOf F n cs = some (cs9, r9)) : okI l dC dI cB cI cJ cZ h0 a K V fz yX12_queryOf (wsOf yX12_queryOf cX12_queryOf 8 (some .int)) (n + 311) [.ref h0] cs cs9 r9 := (sg_queryOf l dC dI cB cI cJ cZ h0 a K V fz F n).1 cs cs9 r9 hf
def m_selectOf (F n : Nat) (cs : RS) : Option (RS × Int32) := (tab_queryOf F n).2.1 cs
theorem s_selectOf (l : Launch) (dC : Nat → ClassId) (dI : Nat → Nat → Nat) (cB cI cJ cZ : ClassId) (h0 : Nat) (a : Nat → Nat) (K V : Nat → Nat) (fz : Value) (F n : Nat) (cs : RS) (cs9 : RS) (r9 : Int32) (hf : m_selectOf F n cs = some (cs9, r9)) : okI l dC dI cB cI cJ cZ h0 a K V fz yX12_selectOf (wsOf yX12_selectOf cX12_selectOf 9 (some .int)) (n + 311) [.ref h0] cs cs9 r9 := (sg_queryOf l dC dI cB cI cJ cZ h0 a K V fz F n).2.1 cs cs9 r9 hf
def m_source (F n : Nat) (cs : RS) (x1 : Int32) (x2 : Int32) (x3 : Int32) : Option RS := (tab_queryOf F n).2.2 cs x1 x2 x3
theorem s_source (l : Launch) (dC : Nat → ClassId) (dI : Nat → Nat → Nat) (cB cI cJ cZ : ClassId) (h0 : Nat) (a : Nat → Nat) (K V : Nat → Nat) (fz : Value) (F n : Nat) (cs : RS) (x1 : Int32) (x2 : Int32) (x3 : Int32) (cs9 : RS) (hf : m_source F n cs x1 x2 x3 = some cs9) : okV l dC dI cB cI cJ cZ h0 a K V fz yX12_source (wsOf yX12_source cX12_source 7 none) (n + 311) [.ref h0, .int x1, .int x2, .int x3] cs cs9 := (sg_queryOf l dC dI cB cI cJ cZ h0 a K V fz F n).2.2 cs x1 x2 x3 cs9 hf
