/-! the law: its twenty calls -/
theorem dL_law_0 : decode code 0 = .ok (.new 7, 3) := by decide +kernel
theorem dL_law_3 : decode code 3 = .ok (.dup, 1) := by decide +kernel
theorem dL_law_4 : decode code 4 = .ok (.invokespecial 9, 3) := by decide +kernel
theorem dL_law_7 : decode code 7 = .ok (.astore_n 1, 1) := by decide +kernel
theorem dL_law_8 : decode code 8 = .ok (.new 10, 3) := by decide +kernel
theorem dL_law_11 : decode code 11 = .ok (.dup, 1) := by decide +kernel
theorem dL_law_12 : decode code 12 = .ok (.invokespecial 12, 3) := by decide +kernel
theorem dL_law_15 : decode code 15 = .ok (.astore_n 2, 1) := by decide +kernel
theorem dL_law_16 : decode code 16 = .ok (.iconst 0, 1) := by decide +kernel
theorem dL_law_17 : decode code 17 = .ok (.istore_n 3, 1) := by decide +kernel
theorem dL_law_18 : decode code 18 = .ok (.iload_n 3, 1) := by decide +kernel
theorem dL_law_19 : decode code 19 = .ok (.aload_n 0, 1) := by decide +kernel
theorem dL_law_20 : decode code 20 = .ok (.arraylength, 1) := by decide +kernel
theorem dL_law_21 : decode code 21 = .ok (.bipush 6, 2) := by decide +kernel
theorem dL_law_23 : decode code 23 = .ok (.isub, 1) := by decide +kernel
theorem dL_law_24 : decode code 24 = .ok (.if_icmp .gt 732, 3) := by decide +kernel
theorem dL_law_27 : decode code 27 = .ok (.aload_n 0, 1) := by decide +kernel
theorem dL_law_28 : decode code 28 = .ok (.iload_n 3, 1) := by decide +kernel
theorem dL_law_29 : decode code 29 = .ok (.iaload, 1) := by decide +kernel
theorem dL_law_30 : decode code 30 = .ok (.bipush 31, 2) := by decide +kernel
theorem dL_law_32 : decode code 32 = .ok (.iand, 1) := by decide +kernel
theorem dL_law_33 : decode code 33 = .ok (.tableswitch 717 0 19 #[95, 158, 181, 204, 217, 230, 283, 296, 359, 392, 445, 458, 481, 515, 548, 561, 595, 628, 651, 694], 95) := by decide +kernel
theorem dL_law_128 : decode code 128 = .ok (.aload_n 1, 1) := by decide +kernel
theorem dL_law_129 : decode code 129 = .ok (.aload_n 0, 1) := by decide +kernel
theorem dL_law_130 : decode code 130 = .ok (.iload_n 3, 1) := by decide +kernel
theorem dL_law_131 : decode code 131 = .ok (.iconst 1, 1) := by decide +kernel
theorem dL_law_132 : decode code 132 = .ok (.iadd, 1) := by decide +kernel
theorem dL_law_133 : decode code 133 = .ok (.iaload, 1) := by decide +kernel
theorem dL_law_134 : decode code 134 = .ok (.aload_n 0, 1) := by decide +kernel
theorem dL_law_135 : decode code 135 = .ok (.iload_n 3, 1) := by decide +kernel
theorem dL_law_136 : decode code 136 = .ok (.iconst 2, 1) := by decide +kernel
theorem dL_law_137 : decode code 137 = .ok (.iadd, 1) := by decide +kernel
theorem dL_law_138 : decode code 138 = .ok (.iaload, 1) := by decide +kernel
theorem dL_law_139 : decode code 139 = .ok (.aload_n 0, 1) := by decide +kernel
theorem dL_law_140 : decode code 140 = .ok (.iload_n 3, 1) := by decide +kernel
theorem dL_law_141 : decode code 141 = .ok (.iconst 3, 1) := by decide +kernel
theorem dL_law_142 : decode code 142 = .ok (.iadd, 1) := by decide +kernel
theorem dL_law_143 : decode code 143 = .ok (.iaload, 1) := by decide +kernel
theorem dL_law_144 : decode code 144 = .ok (.aload_n 0, 1) := by decide +kernel
theorem dL_law_145 : decode code 145 = .ok (.iload_n 3, 1) := by decide +kernel
theorem dL_law_146 : decode code 146 = .ok (.iconst 4, 1) := by decide +kernel
theorem dL_law_147 : decode code 147 = .ok (.iadd, 1) := by decide +kernel
theorem dL_law_148 : decode code 148 = .ok (.iaload, 1) := by decide +kernel
theorem dL_law_149 : decode code 149 = .ok (.aload_n 0, 1) := by decide +kernel
theorem dL_law_150 : decode code 150 = .ok (.iload_n 3, 1) := by decide +kernel
theorem dL_law_151 : decode code 151 = .ok (.iconst 5, 1) := by decide +kernel
theorem dL_law_152 : decode code 152 = .ok (.iadd, 1) := by decide +kernel
theorem dL_law_153 : decode code 153 = .ok (.iaload, 1) := by decide +kernel
theorem dL_law_154 : decode code 154 = .ok (.invokevirtual 13, 3) := by decide +kernel
theorem dL_law_157 : decode code 157 = .ok (.aload_n 2, 1) := by decide +kernel
theorem dL_law_158 : decode code 158 = .ok (.aload_n 0, 1) := by decide +kernel
theorem dL_law_159 : decode code 159 = .ok (.iload_n 3, 1) := by decide +kernel
theorem dL_law_160 : decode code 160 = .ok (.iconst 1, 1) := by decide +kernel
theorem dL_law_161 : decode code 161 = .ok (.iadd, 1) := by decide +kernel
theorem dL_law_162 : decode code 162 = .ok (.iaload, 1) := by decide +kernel
theorem dL_law_163 : decode code 163 = .ok (.aload_n 0, 1) := by decide +kernel
theorem dL_law_164 : decode code 164 = .ok (.iload_n 3, 1) := by decide +kernel
theorem dL_law_165 : decode code 165 = .ok (.iconst 2, 1) := by decide +kernel
theorem dL_law_166 : decode code 166 = .ok (.iadd, 1) := by decide +kernel
theorem dL_law_167 : decode code 167 = .ok (.iaload, 1) := by decide +kernel
theorem dL_law_168 : decode code 168 = .ok (.aload_n 0, 1) := by decide +kernel
theorem dL_law_169 : decode code 169 = .ok (.iload_n 3, 1) := by decide +kernel
theorem dL_law_170 : decode code 170 = .ok (.iconst 3, 1) := by decide +kernel
theorem dL_law_171 : decode code 171 = .ok (.iadd, 1) := by decide +kernel
theorem dL_law_172 : decode code 172 = .ok (.iaload, 1) := by decide +kernel
theorem dL_law_173 : decode code 173 = .ok (.aload_n 0, 1) := by decide +kernel
theorem dL_law_174 : decode code 174 = .ok (.iload_n 3, 1) := by decide +kernel
theorem dL_law_175 : decode code 175 = .ok (.iconst 4, 1) := by decide +kernel
theorem dL_law_176 : decode code 176 = .ok (.iadd, 1) := by decide +kernel
theorem dL_law_177 : decode code 177 = .ok (.iaload, 1) := by decide +kernel
theorem dL_law_178 : decode code 178 = .ok (.aload_n 0, 1) := by decide +kernel
theorem dL_law_179 : decode code 179 = .ok (.iload_n 3, 1) := by decide +kernel
theorem dL_law_180 : decode code 180 = .ok (.iconst 5, 1) := by decide +kernel
theorem dL_law_181 : decode code 181 = .ok (.iadd, 1) := by decide +kernel
theorem dL_law_182 : decode code 182 = .ok (.iaload, 1) := by decide +kernel
theorem dL_law_183 : decode code 183 = .ok (.invokevirtual 17, 3) := by decide +kernel
theorem dL_law_186 : decode code 186 = .ok (.if_icmp .eq 564, 3) := by decide +kernel
theorem dL_law_189 : decode code 189 = .ok (.iconst 0, 1) := by decide +kernel
theorem dL_law_190 : decode code 190 = .ok (.ireturn, 1) := by decide +kernel
theorem dL_law_191 : decode code 191 = .ok (.aload_n 1, 1) := by decide +kernel
theorem dL_law_192 : decode code 192 = .ok (.aload_n 0, 1) := by decide +kernel
theorem dL_law_193 : decode code 193 = .ok (.iload_n 3, 1) := by decide +kernel
theorem dL_law_194 : decode code 194 = .ok (.iconst 1, 1) := by decide +kernel
theorem dL_law_195 : decode code 195 = .ok (.iadd, 1) := by decide +kernel
theorem dL_law_196 : decode code 196 = .ok (.iaload, 1) := by decide +kernel
theorem dL_law_197 : decode code 197 = .ok (.invokevirtual 18, 3) := by decide +kernel
theorem dL_law_200 : decode code 200 = .ok (.aload_n 2, 1) := by decide +kernel
theorem dL_law_201 : decode code 201 = .ok (.aload_n 0, 1) := by decide +kernel
theorem dL_law_202 : decode code 202 = .ok (.iload_n 3, 1) := by decide +kernel
theorem dL_law_203 : decode code 203 = .ok (.iconst 1, 1) := by decide +kernel
theorem dL_law_204 : decode code 204 = .ok (.iadd, 1) := by decide +kernel
theorem dL_law_205 : decode code 205 = .ok (.iaload, 1) := by decide +kernel
theorem dL_law_206 : decode code 206 = .ok (.invokevirtual 22, 3) := by decide +kernel
theorem dL_law_209 : decode code 209 = .ok (.if_icmp .eq 541, 3) := by decide +kernel
theorem dL_law_212 : decode code 212 = .ok (.iconst 0, 1) := by decide +kernel
theorem dL_law_213 : decode code 213 = .ok (.ireturn, 1) := by decide +kernel
theorem dL_law_214 : decode code 214 = .ok (.aload_n 1, 1) := by decide +kernel
theorem dL_law_215 : decode code 215 = .ok (.aload_n 0, 1) := by decide +kernel
theorem dL_law_216 : decode code 216 = .ok (.iload_n 3, 1) := by decide +kernel
theorem dL_law_217 : decode code 217 = .ok (.iconst 1, 1) := by decide +kernel
theorem dL_law_218 : decode code 218 = .ok (.iadd, 1) := by decide +kernel
theorem dL_law_219 : decode code 219 = .ok (.iaload, 1) := by decide +kernel
theorem dL_law_220 : decode code 220 = .ok (.invokevirtual 23, 3) := by decide +kernel
theorem dL_law_223 : decode code 223 = .ok (.aload_n 2, 1) := by decide +kernel
theorem dL_law_224 : decode code 224 = .ok (.aload_n 0, 1) := by decide +kernel
theorem dL_law_225 : decode code 225 = .ok (.iload_n 3, 1) := by decide +kernel
theorem dL_law_226 : decode code 226 = .ok (.iconst 1, 1) := by decide +kernel
theorem dL_law_227 : decode code 227 = .ok (.iadd, 1) := by decide +kernel
theorem dL_law_228 : decode code 228 = .ok (.iaload, 1) := by decide +kernel
theorem dL_law_229 : decode code 229 = .ok (.invokevirtual 26, 3) := by decide +kernel
theorem dL_law_232 : decode code 232 = .ok (.if_icmp .eq 518, 3) := by decide +kernel
theorem dL_law_235 : decode code 235 = .ok (.iconst 0, 1) := by decide +kernel
theorem dL_law_236 : decode code 236 = .ok (.ireturn, 1) := by decide +kernel
theorem dL_law_237 : decode code 237 = .ok (.aload_n 1, 1) := by decide +kernel
theorem dL_law_238 : decode code 238 = .ok (.invokevirtual 27, 3) := by decide +kernel
theorem dL_law_241 : decode code 241 = .ok (.aload_n 2, 1) := by decide +kernel
theorem dL_law_242 : decode code 242 = .ok (.invokevirtual 31, 3) := by decide +kernel
theorem dL_law_245 : decode code 245 = .ok (.if_icmp .eq 505, 3) := by decide +kernel
theorem dL_law_248 : decode code 248 = .ok (.iconst 0, 1) := by decide +kernel
theorem dL_law_249 : decode code 249 = .ok (.ireturn, 1) := by decide +kernel
theorem dL_law_250 : decode code 250 = .ok (.aload_n 1, 1) := by decide +kernel
theorem dL_law_251 : decode code 251 = .ok (.invokevirtual 32, 3) := by decide +kernel
theorem dL_law_254 : decode code 254 = .ok (.aload_n 2, 1) := by decide +kernel
theorem dL_law_255 : decode code 255 = .ok (.invokevirtual 35, 3) := by decide +kernel
theorem dL_law_258 : decode code 258 = .ok (.if_icmp .eq 492, 3) := by decide +kernel
theorem dL_law_261 : decode code 261 = .ok (.iconst 0, 1) := by decide +kernel
theorem dL_law_262 : decode code 262 = .ok (.ireturn, 1) := by decide +kernel
theorem dL_law_263 : decode code 263 = .ok (.aload_n 1, 1) := by decide +kernel
theorem dL_law_264 : decode code 264 = .ok (.aload_n 0, 1) := by decide +kernel
theorem dL_law_265 : decode code 265 = .ok (.iload_n 3, 1) := by decide +kernel
theorem dL_law_266 : decode code 266 = .ok (.iconst 1, 1) := by decide +kernel
theorem dL_law_267 : decode code 267 = .ok (.iadd, 1) := by decide +kernel
theorem dL_law_268 : decode code 268 = .ok (.iaload, 1) := by decide +kernel
theorem dL_law_269 : decode code 269 = .ok (.i2l, 1) := by decide +kernel
theorem dL_law_270 : decode code 270 = .ok (.bipush 32, 2) := by decide +kernel
theorem dL_law_272 : decode code 272 = .ok (.lshl, 1) := by decide +kernel
theorem dL_law_273 : decode code 273 = .ok (.aload_n 0, 1) := by decide +kernel
theorem dL_law_274 : decode code 274 = .ok (.iload_n 3, 1) := by decide +kernel
theorem dL_law_275 : decode code 275 = .ok (.iconst 2, 1) := by decide +kernel
theorem dL_law_276 : decode code 276 = .ok (.iadd, 1) := by decide +kernel
theorem dL_law_277 : decode code 277 = .ok (.iaload, 1) := by decide +kernel
theorem dL_law_278 : decode code 278 = .ok (.i2l, 1) := by decide +kernel
theorem dL_law_279 : decode code 279 = .ok (.ldc2_w 36, 3) := by decide +kernel
theorem dL_law_282 : decode code 282 = .ok (.land, 1) := by decide +kernel
theorem dL_law_283 : decode code 283 = .ok (.lor, 1) := by decide +kernel
theorem dL_law_284 : decode code 284 = .ok (.invokevirtual 38, 3) := by decide +kernel
theorem dL_law_287 : decode code 287 = .ok (.aload_n 2, 1) := by decide +kernel
theorem dL_law_288 : decode code 288 = .ok (.aload_n 0, 1) := by decide +kernel
theorem dL_law_289 : decode code 289 = .ok (.iload_n 3, 1) := by decide +kernel
theorem dL_law_290 : decode code 290 = .ok (.iconst 1, 1) := by decide +kernel
theorem dL_law_291 : decode code 291 = .ok (.iadd, 1) := by decide +kernel
theorem dL_law_292 : decode code 292 = .ok (.iaload, 1) := by decide +kernel
theorem dL_law_293 : decode code 293 = .ok (.i2l, 1) := by decide +kernel
theorem dL_law_294 : decode code 294 = .ok (.bipush 32, 2) := by decide +kernel
theorem dL_law_296 : decode code 296 = .ok (.lshl, 1) := by decide +kernel
theorem dL_law_297 : decode code 297 = .ok (.aload_n 0, 1) := by decide +kernel
theorem dL_law_298 : decode code 298 = .ok (.iload_n 3, 1) := by decide +kernel
theorem dL_law_299 : decode code 299 = .ok (.iconst 2, 1) := by decide +kernel
theorem dL_law_300 : decode code 300 = .ok (.iadd, 1) := by decide +kernel
theorem dL_law_301 : decode code 301 = .ok (.iaload, 1) := by decide +kernel
theorem dL_law_302 : decode code 302 = .ok (.i2l, 1) := by decide +kernel
theorem dL_law_303 : decode code 303 = .ok (.ldc2_w 36, 3) := by decide +kernel
theorem dL_law_306 : decode code 306 = .ok (.land, 1) := by decide +kernel
theorem dL_law_307 : decode code 307 = .ok (.lor, 1) := by decide +kernel
theorem dL_law_308 : decode code 308 = .ok (.invokevirtual 42, 3) := by decide +kernel
theorem dL_law_311 : decode code 311 = .ok (.if_icmp .eq 439, 3) := by decide +kernel
theorem dL_law_314 : decode code 314 = .ok (.iconst 0, 1) := by decide +kernel
theorem dL_law_315 : decode code 315 = .ok (.ireturn, 1) := by decide +kernel
theorem dL_law_316 : decode code 316 = .ok (.aload_n 1, 1) := by decide +kernel
theorem dL_law_317 : decode code 317 = .ok (.invokevirtual 43, 3) := by decide +kernel
theorem dL_law_320 : decode code 320 = .ok (.aload_n 2, 1) := by decide +kernel
theorem dL_law_321 : decode code 321 = .ok (.invokevirtual 46, 3) := by decide +kernel
theorem dL_law_324 : decode code 324 = .ok (.if_icmp .eq 426, 3) := by decide +kernel
theorem dL_law_327 : decode code 327 = .ok (.iconst 0, 1) := by decide +kernel
theorem dL_law_328 : decode code 328 = .ok (.ireturn, 1) := by decide +kernel
theorem dL_law_329 : decode code 329 = .ok (.aload_n 1, 1) := by decide +kernel
theorem dL_law_330 : decode code 330 = .ok (.aload_n 0, 1) := by decide +kernel
theorem dL_law_331 : decode code 331 = .ok (.iload_n 3, 1) := by decide +kernel
theorem dL_law_332 : decode code 332 = .ok (.iconst 1, 1) := by decide +kernel
theorem dL_law_333 : decode code 333 = .ok (.iadd, 1) := by decide +kernel
theorem dL_law_334 : decode code 334 = .ok (.iaload, 1) := by decide +kernel
theorem dL_law_335 : decode code 335 = .ok (.aload_n 0, 1) := by decide +kernel
theorem dL_law_336 : decode code 336 = .ok (.iload_n 3, 1) := by decide +kernel
theorem dL_law_337 : decode code 337 = .ok (.iconst 2, 1) := by decide +kernel
theorem dL_law_338 : decode code 338 = .ok (.iadd, 1) := by decide +kernel
theorem dL_law_339 : decode code 339 = .ok (.iaload, 1) := by decide +kernel
theorem dL_law_340 : decode code 340 = .ok (.i2l, 1) := by decide +kernel
theorem dL_law_341 : decode code 341 = .ok (.bipush 32, 2) := by decide +kernel
theorem dL_law_343 : decode code 343 = .ok (.lshl, 1) := by decide +kernel
theorem dL_law_344 : decode code 344 = .ok (.aload_n 0, 1) := by decide +kernel
theorem dL_law_345 : decode code 345 = .ok (.iload_n 3, 1) := by decide +kernel
theorem dL_law_346 : decode code 346 = .ok (.iconst 3, 1) := by decide +kernel
theorem dL_law_347 : decode code 347 = .ok (.iadd, 1) := by decide +kernel
theorem dL_law_348 : decode code 348 = .ok (.iaload, 1) := by decide +kernel
theorem dL_law_349 : decode code 349 = .ok (.i2l, 1) := by decide +kernel
theorem dL_law_350 : decode code 350 = .ok (.ldc2_w 36, 3) := by decide +kernel
theorem dL_law_353 : decode code 353 = .ok (.land, 1) := by decide +kernel
theorem dL_law_354 : decode code 354 = .ok (.lor, 1) := by decide +kernel
theorem dL_law_355 : decode code 355 = .ok (.invokevirtual 47, 3) := by decide +kernel
theorem dL_law_358 : decode code 358 = .ok (.aload_n 2, 1) := by decide +kernel
theorem dL_law_359 : decode code 359 = .ok (.aload_n 0, 1) := by decide +kernel
theorem dL_law_360 : decode code 360 = .ok (.iload_n 3, 1) := by decide +kernel
theorem dL_law_361 : decode code 361 = .ok (.iconst 1, 1) := by decide +kernel
theorem dL_law_362 : decode code 362 = .ok (.iadd, 1) := by decide +kernel
theorem dL_law_363 : decode code 363 = .ok (.iaload, 1) := by decide +kernel
theorem dL_law_364 : decode code 364 = .ok (.aload_n 0, 1) := by decide +kernel
theorem dL_law_365 : decode code 365 = .ok (.iload_n 3, 1) := by decide +kernel
theorem dL_law_366 : decode code 366 = .ok (.iconst 2, 1) := by decide +kernel
theorem dL_law_367 : decode code 367 = .ok (.iadd, 1) := by decide +kernel
theorem dL_law_368 : decode code 368 = .ok (.iaload, 1) := by decide +kernel
theorem dL_law_369 : decode code 369 = .ok (.i2l, 1) := by decide +kernel
theorem dL_law_370 : decode code 370 = .ok (.bipush 32, 2) := by decide +kernel
theorem dL_law_372 : decode code 372 = .ok (.lshl, 1) := by decide +kernel
theorem dL_law_373 : decode code 373 = .ok (.aload_n 0, 1) := by decide +kernel
theorem dL_law_374 : decode code 374 = .ok (.iload_n 3, 1) := by decide +kernel
theorem dL_law_375 : decode code 375 = .ok (.iconst 3, 1) := by decide +kernel
theorem dL_law_376 : decode code 376 = .ok (.iadd, 1) := by decide +kernel
theorem dL_law_377 : decode code 377 = .ok (.iaload, 1) := by decide +kernel
theorem dL_law_378 : decode code 378 = .ok (.i2l, 1) := by decide +kernel
theorem dL_law_379 : decode code 379 = .ok (.ldc2_w 36, 3) := by decide +kernel
theorem dL_law_382 : decode code 382 = .ok (.land, 1) := by decide +kernel
theorem dL_law_383 : decode code 383 = .ok (.lor, 1) := by decide +kernel
theorem dL_law_384 : decode code 384 = .ok (.invokevirtual 51, 3) := by decide +kernel
theorem dL_law_387 : decode code 387 = .ok (.if_icmp .eq 363, 3) := by decide +kernel
theorem dL_law_390 : decode code 390 = .ok (.iconst 0, 1) := by decide +kernel
theorem dL_law_391 : decode code 391 = .ok (.ireturn, 1) := by decide +kernel
theorem dL_law_392 : decode code 392 = .ok (.aload_n 1, 1) := by decide +kernel
theorem dL_law_393 : decode code 393 = .ok (.aload_n 0, 1) := by decide +kernel
theorem dL_law_394 : decode code 394 = .ok (.iload_n 3, 1) := by decide +kernel
theorem dL_law_395 : decode code 395 = .ok (.iconst 1, 1) := by decide +kernel
theorem dL_law_396 : decode code 396 = .ok (.iadd, 1) := by decide +kernel
theorem dL_law_397 : decode code 397 = .ok (.iaload, 1) := by decide +kernel
theorem dL_law_398 : decode code 398 = .ok (.aload_n 0, 1) := by decide +kernel
theorem dL_law_399 : decode code 399 = .ok (.iload_n 3, 1) := by decide +kernel
theorem dL_law_400 : decode code 400 = .ok (.iconst 2, 1) := by decide +kernel
theorem dL_law_401 : decode code 401 = .ok (.iadd, 1) := by decide +kernel
theorem dL_law_402 : decode code 402 = .ok (.iaload, 1) := by decide +kernel
theorem dL_law_403 : decode code 403 = .ok (.invokevirtual 52, 3) := by decide +kernel
theorem dL_law_406 : decode code 406 = .ok (.aload_n 2, 1) := by decide +kernel
theorem dL_law_407 : decode code 407 = .ok (.aload_n 0, 1) := by decide +kernel
theorem dL_law_408 : decode code 408 = .ok (.iload_n 3, 1) := by decide +kernel
theorem dL_law_409 : decode code 409 = .ok (.iconst 1, 1) := by decide +kernel
theorem dL_law_410 : decode code 410 = .ok (.iadd, 1) := by decide +kernel
theorem dL_law_411 : decode code 411 = .ok (.iaload, 1) := by decide +kernel
theorem dL_law_412 : decode code 412 = .ok (.aload_n 0, 1) := by decide +kernel
theorem dL_law_413 : decode code 413 = .ok (.iload_n 3, 1) := by decide +kernel
theorem dL_law_414 : decode code 414 = .ok (.iconst 2, 1) := by decide +kernel
theorem dL_law_415 : decode code 415 = .ok (.iadd, 1) := by decide +kernel
theorem dL_law_416 : decode code 416 = .ok (.iaload, 1) := by decide +kernel
theorem dL_law_417 : decode code 417 = .ok (.invokevirtual 56, 3) := by decide +kernel
theorem dL_law_420 : decode code 420 = .ok (.if_icmp .eq 330, 3) := by decide +kernel
theorem dL_law_423 : decode code 423 = .ok (.iconst 0, 1) := by decide +kernel
theorem dL_law_424 : decode code 424 = .ok (.ireturn, 1) := by decide +kernel
theorem dL_law_425 : decode code 425 = .ok (.aload_n 1, 1) := by decide +kernel
theorem dL_law_426 : decode code 426 = .ok (.aload_n 0, 1) := by decide +kernel
theorem dL_law_427 : decode code 427 = .ok (.iload_n 3, 1) := by decide +kernel
theorem dL_law_428 : decode code 428 = .ok (.iconst 1, 1) := by decide +kernel
theorem dL_law_429 : decode code 429 = .ok (.iadd, 1) := by decide +kernel
theorem dL_law_430 : decode code 430 = .ok (.iaload, 1) := by decide +kernel
theorem dL_law_431 : decode code 431 = .ok (.i2l, 1) := by decide +kernel
theorem dL_law_432 : decode code 432 = .ok (.bipush 32, 2) := by decide +kernel
theorem dL_law_434 : decode code 434 = .ok (.lshl, 1) := by decide +kernel
theorem dL_law_435 : decode code 435 = .ok (.aload_n 0, 1) := by decide +kernel
theorem dL_law_436 : decode code 436 = .ok (.iload_n 3, 1) := by decide +kernel
theorem dL_law_437 : decode code 437 = .ok (.iconst 2, 1) := by decide +kernel
theorem dL_law_438 : decode code 438 = .ok (.iadd, 1) := by decide +kernel
theorem dL_law_439 : decode code 439 = .ok (.iaload, 1) := by decide +kernel
theorem dL_law_440 : decode code 440 = .ok (.i2l, 1) := by decide +kernel
theorem dL_law_441 : decode code 441 = .ok (.ldc2_w 36, 3) := by decide +kernel
theorem dL_law_444 : decode code 444 = .ok (.land, 1) := by decide +kernel
theorem dL_law_445 : decode code 445 = .ok (.lor, 1) := by decide +kernel
theorem dL_law_446 : decode code 446 = .ok (.invokevirtual 57, 3) := by decide +kernel
theorem dL_law_449 : decode code 449 = .ok (.aload_n 2, 1) := by decide +kernel
theorem dL_law_450 : decode code 450 = .ok (.aload_n 0, 1) := by decide +kernel
theorem dL_law_451 : decode code 451 = .ok (.iload_n 3, 1) := by decide +kernel
theorem dL_law_452 : decode code 452 = .ok (.iconst 1, 1) := by decide +kernel
theorem dL_law_453 : decode code 453 = .ok (.iadd, 1) := by decide +kernel
theorem dL_law_454 : decode code 454 = .ok (.iaload, 1) := by decide +kernel
theorem dL_law_455 : decode code 455 = .ok (.i2l, 1) := by decide +kernel
theorem dL_law_456 : decode code 456 = .ok (.bipush 32, 2) := by decide +kernel
theorem dL_law_458 : decode code 458 = .ok (.lshl, 1) := by decide +kernel
theorem dL_law_459 : decode code 459 = .ok (.aload_n 0, 1) := by decide +kernel
theorem dL_law_460 : decode code 460 = .ok (.iload_n 3, 1) := by decide +kernel
theorem dL_law_461 : decode code 461 = .ok (.iconst 2, 1) := by decide +kernel
theorem dL_law_462 : decode code 462 = .ok (.iadd, 1) := by decide +kernel
theorem dL_law_463 : decode code 463 = .ok (.iaload, 1) := by decide +kernel
theorem dL_law_464 : decode code 464 = .ok (.i2l, 1) := by decide +kernel
theorem dL_law_465 : decode code 465 = .ok (.ldc2_w 36, 3) := by decide +kernel
theorem dL_law_468 : decode code 468 = .ok (.land, 1) := by decide +kernel
theorem dL_law_469 : decode code 469 = .ok (.lor, 1) := by decide +kernel
theorem dL_law_470 : decode code 470 = .ok (.invokevirtual 60, 3) := by decide +kernel
theorem dL_law_473 : decode code 473 = .ok (.if_icmp .eq 277, 3) := by decide +kernel
theorem dL_law_476 : decode code 476 = .ok (.iconst 0, 1) := by decide +kernel
theorem dL_law_477 : decode code 477 = .ok (.ireturn, 1) := by decide +kernel
theorem dL_law_478 : decode code 478 = .ok (.aload_n 1, 1) := by decide +kernel
theorem dL_law_479 : decode code 479 = .ok (.invokevirtual 61, 3) := by decide +kernel
theorem dL_law_482 : decode code 482 = .ok (.aload_n 2, 1) := by decide +kernel
theorem dL_law_483 : decode code 483 = .ok (.invokevirtual 64, 3) := by decide +kernel
theorem dL_law_486 : decode code 486 = .ok (.if_icmp .eq 264, 3) := by decide +kernel
theorem dL_law_489 : decode code 489 = .ok (.iconst 0, 1) := by decide +kernel
theorem dL_law_490 : decode code 490 = .ok (.ireturn, 1) := by decide +kernel
theorem dL_law_491 : decode code 491 = .ok (.aload_n 1, 1) := by decide +kernel
theorem dL_law_492 : decode code 492 = .ok (.aload_n 0, 1) := by decide +kernel
theorem dL_law_493 : decode code 493 = .ok (.iload_n 3, 1) := by decide +kernel
theorem dL_law_494 : decode code 494 = .ok (.iconst 1, 1) := by decide +kernel
theorem dL_law_495 : decode code 495 = .ok (.iadd, 1) := by decide +kernel
theorem dL_law_496 : decode code 496 = .ok (.iaload, 1) := by decide +kernel
theorem dL_law_497 : decode code 497 = .ok (.invokevirtual 65, 3) := by decide +kernel
theorem dL_law_500 : decode code 500 = .ok (.aload_n 2, 1) := by decide +kernel
theorem dL_law_501 : decode code 501 = .ok (.aload_n 0, 1) := by decide +kernel
theorem dL_law_502 : decode code 502 = .ok (.iload_n 3, 1) := by decide +kernel
theorem dL_law_503 : decode code 503 = .ok (.iconst 1, 1) := by decide +kernel
theorem dL_law_504 : decode code 504 = .ok (.iadd, 1) := by decide +kernel
theorem dL_law_505 : decode code 505 = .ok (.iaload, 1) := by decide +kernel
theorem dL_law_506 : decode code 506 = .ok (.invokevirtual 68, 3) := by decide +kernel
theorem dL_law_509 : decode code 509 = .ok (.if_icmp .eq 241, 3) := by decide +kernel
theorem dL_law_512 : decode code 512 = .ok (.iconst 0, 1) := by decide +kernel
theorem dL_law_513 : decode code 513 = .ok (.ireturn, 1) := by decide +kernel
theorem dL_law_514 : decode code 514 = .ok (.aload_n 1, 1) := by decide +kernel
theorem dL_law_515 : decode code 515 = .ok (.aload_n 0, 1) := by decide +kernel
theorem dL_law_516 : decode code 516 = .ok (.iload_n 3, 1) := by decide +kernel
theorem dL_law_517 : decode code 517 = .ok (.iconst 1, 1) := by decide +kernel
theorem dL_law_518 : decode code 518 = .ok (.iadd, 1) := by decide +kernel
theorem dL_law_519 : decode code 519 = .ok (.iaload, 1) := by decide +kernel
theorem dL_law_520 : decode code 520 = .ok (.aload_n 0, 1) := by decide +kernel
theorem dL_law_521 : decode code 521 = .ok (.iload_n 3, 1) := by decide +kernel
theorem dL_law_522 : decode code 522 = .ok (.iconst 2, 1) := by decide +kernel
theorem dL_law_523 : decode code 523 = .ok (.iadd, 1) := by decide +kernel
theorem dL_law_524 : decode code 524 = .ok (.iaload, 1) := by decide +kernel
theorem dL_law_525 : decode code 525 = .ok (.invokevirtual 69, 3) := by decide +kernel
theorem dL_law_528 : decode code 528 = .ok (.aload_n 2, 1) := by decide +kernel
theorem dL_law_529 : decode code 529 = .ok (.aload_n 0, 1) := by decide +kernel
theorem dL_law_530 : decode code 530 = .ok (.iload_n 3, 1) := by decide +kernel
theorem dL_law_531 : decode code 531 = .ok (.iconst 1, 1) := by decide +kernel
theorem dL_law_532 : decode code 532 = .ok (.iadd, 1) := by decide +kernel
theorem dL_law_533 : decode code 533 = .ok (.iaload, 1) := by decide +kernel
theorem dL_law_534 : decode code 534 = .ok (.aload_n 0, 1) := by decide +kernel
theorem dL_law_535 : decode code 535 = .ok (.iload_n 3, 1) := by decide +kernel
theorem dL_law_536 : decode code 536 = .ok (.iconst 2, 1) := by decide +kernel
theorem dL_law_537 : decode code 537 = .ok (.iadd, 1) := by decide +kernel
theorem dL_law_538 : decode code 538 = .ok (.iaload, 1) := by decide +kernel
theorem dL_law_539 : decode code 539 = .ok (.invokevirtual 73, 3) := by decide +kernel
theorem dL_law_542 : decode code 542 = .ok (.lcmp, 1) := by decide +kernel
theorem dL_law_543 : decode code 543 = .ok (.ifCond .eq 207, 3) := by decide +kernel
theorem dL_law_546 : decode code 546 = .ok (.iconst 0, 1) := by decide +kernel
theorem dL_law_547 : decode code 547 = .ok (.ireturn, 1) := by decide +kernel
theorem dL_law_548 : decode code 548 = .ok (.aload_n 1, 1) := by decide +kernel
theorem dL_law_549 : decode code 549 = .ok (.aload_n 0, 1) := by decide +kernel
theorem dL_law_550 : decode code 550 = .ok (.iload_n 3, 1) := by decide +kernel
theorem dL_law_551 : decode code 551 = .ok (.iconst 1, 1) := by decide +kernel
theorem dL_law_552 : decode code 552 = .ok (.iadd, 1) := by decide +kernel
theorem dL_law_553 : decode code 553 = .ok (.iaload, 1) := by decide +kernel
theorem dL_law_554 : decode code 554 = .ok (.aload_n 0, 1) := by decide +kernel
theorem dL_law_555 : decode code 555 = .ok (.iload_n 3, 1) := by decide +kernel
theorem dL_law_556 : decode code 556 = .ok (.iconst 2, 1) := by decide +kernel
theorem dL_law_557 : decode code 557 = .ok (.iadd, 1) := by decide +kernel
theorem dL_law_558 : decode code 558 = .ok (.iaload, 1) := by decide +kernel
theorem dL_law_559 : decode code 559 = .ok (.invokevirtual 74, 3) := by decide +kernel
theorem dL_law_562 : decode code 562 = .ok (.aload_n 2, 1) := by decide +kernel
theorem dL_law_563 : decode code 563 = .ok (.aload_n 0, 1) := by decide +kernel
theorem dL_law_564 : decode code 564 = .ok (.iload_n 3, 1) := by decide +kernel
theorem dL_law_565 : decode code 565 = .ok (.iconst 1, 1) := by decide +kernel
theorem dL_law_566 : decode code 566 = .ok (.iadd, 1) := by decide +kernel
theorem dL_law_567 : decode code 567 = .ok (.iaload, 1) := by decide +kernel
theorem dL_law_568 : decode code 568 = .ok (.aload_n 0, 1) := by decide +kernel
theorem dL_law_569 : decode code 569 = .ok (.iload_n 3, 1) := by decide +kernel
theorem dL_law_570 : decode code 570 = .ok (.iconst 2, 1) := by decide +kernel
theorem dL_law_571 : decode code 571 = .ok (.iadd, 1) := by decide +kernel
theorem dL_law_572 : decode code 572 = .ok (.iaload, 1) := by decide +kernel
theorem dL_law_573 : decode code 573 = .ok (.invokevirtual 77, 3) := by decide +kernel
theorem dL_law_576 : decode code 576 = .ok (.if_icmp .eq 174, 3) := by decide +kernel
theorem dL_law_579 : decode code 579 = .ok (.iconst 0, 1) := by decide +kernel
theorem dL_law_580 : decode code 580 = .ok (.ireturn, 1) := by decide +kernel
theorem dL_law_581 : decode code 581 = .ok (.aload_n 1, 1) := by decide +kernel
theorem dL_law_582 : decode code 582 = .ok (.invokevirtual 78, 3) := by decide +kernel
theorem dL_law_585 : decode code 585 = .ok (.aload_n 2, 1) := by decide +kernel
theorem dL_law_586 : decode code 586 = .ok (.invokevirtual 81, 3) := by decide +kernel
theorem dL_law_589 : decode code 589 = .ok (.if_icmp .eq 161, 3) := by decide +kernel
theorem dL_law_592 : decode code 592 = .ok (.iconst 0, 1) := by decide +kernel
theorem dL_law_593 : decode code 593 = .ok (.ireturn, 1) := by decide +kernel
theorem dL_law_594 : decode code 594 = .ok (.aload_n 1, 1) := by decide +kernel
theorem dL_law_595 : decode code 595 = .ok (.aload_n 0, 1) := by decide +kernel
theorem dL_law_596 : decode code 596 = .ok (.iload_n 3, 1) := by decide +kernel
theorem dL_law_597 : decode code 597 = .ok (.iconst 1, 1) := by decide +kernel
theorem dL_law_598 : decode code 598 = .ok (.iadd, 1) := by decide +kernel
theorem dL_law_599 : decode code 599 = .ok (.iaload, 1) := by decide +kernel
theorem dL_law_600 : decode code 600 = .ok (.aload_n 0, 1) := by decide +kernel
theorem dL_law_601 : decode code 601 = .ok (.iload_n 3, 1) := by decide +kernel
theorem dL_law_602 : decode code 602 = .ok (.iconst 2, 1) := by decide +kernel
theorem dL_law_603 : decode code 603 = .ok (.iadd, 1) := by decide +kernel
theorem dL_law_604 : decode code 604 = .ok (.iaload, 1) := by decide +kernel
theorem dL_law_605 : decode code 605 = .ok (.invokevirtual 82, 3) := by decide +kernel
theorem dL_law_608 : decode code 608 = .ok (.aload_n 2, 1) := by decide +kernel
theorem dL_law_609 : decode code 609 = .ok (.aload_n 0, 1) := by decide +kernel
theorem dL_law_610 : decode code 610 = .ok (.iload_n 3, 1) := by decide +kernel
theorem dL_law_611 : decode code 611 = .ok (.iconst 1, 1) := by decide +kernel
theorem dL_law_612 : decode code 612 = .ok (.iadd, 1) := by decide +kernel
theorem dL_law_613 : decode code 613 = .ok (.iaload, 1) := by decide +kernel
theorem dL_law_614 : decode code 614 = .ok (.aload_n 0, 1) := by decide +kernel
theorem dL_law_615 : decode code 615 = .ok (.iload_n 3, 1) := by decide +kernel
theorem dL_law_616 : decode code 616 = .ok (.iconst 2, 1) := by decide +kernel
theorem dL_law_617 : decode code 617 = .ok (.iadd, 1) := by decide +kernel
theorem dL_law_618 : decode code 618 = .ok (.iaload, 1) := by decide +kernel
theorem dL_law_619 : decode code 619 = .ok (.invokevirtual 85, 3) := by decide +kernel
theorem dL_law_622 : decode code 622 = .ok (.lcmp, 1) := by decide +kernel
theorem dL_law_623 : decode code 623 = .ok (.ifCond .eq 127, 3) := by decide +kernel
theorem dL_law_626 : decode code 626 = .ok (.iconst 0, 1) := by decide +kernel
theorem dL_law_627 : decode code 627 = .ok (.ireturn, 1) := by decide +kernel
theorem dL_law_628 : decode code 628 = .ok (.aload_n 1, 1) := by decide +kernel
theorem dL_law_629 : decode code 629 = .ok (.aload_n 0, 1) := by decide +kernel
theorem dL_law_630 : decode code 630 = .ok (.iload_n 3, 1) := by decide +kernel
theorem dL_law_631 : decode code 631 = .ok (.iconst 1, 1) := by decide +kernel
theorem dL_law_632 : decode code 632 = .ok (.iadd, 1) := by decide +kernel
theorem dL_law_633 : decode code 633 = .ok (.iaload, 1) := by decide +kernel
theorem dL_law_634 : decode code 634 = .ok (.aload_n 0, 1) := by decide +kernel
theorem dL_law_635 : decode code 635 = .ok (.iload_n 3, 1) := by decide +kernel
theorem dL_law_636 : decode code 636 = .ok (.iconst 2, 1) := by decide +kernel
theorem dL_law_637 : decode code 637 = .ok (.iadd, 1) := by decide +kernel
theorem dL_law_638 : decode code 638 = .ok (.iaload, 1) := by decide +kernel
theorem dL_law_639 : decode code 639 = .ok (.invokevirtual 86, 3) := by decide +kernel
theorem dL_law_642 : decode code 642 = .ok (.aload_n 2, 1) := by decide +kernel
theorem dL_law_643 : decode code 643 = .ok (.aload_n 0, 1) := by decide +kernel
theorem dL_law_644 : decode code 644 = .ok (.iload_n 3, 1) := by decide +kernel
theorem dL_law_645 : decode code 645 = .ok (.iconst 1, 1) := by decide +kernel
theorem dL_law_646 : decode code 646 = .ok (.iadd, 1) := by decide +kernel
theorem dL_law_647 : decode code 647 = .ok (.iaload, 1) := by decide +kernel
theorem dL_law_648 : decode code 648 = .ok (.aload_n 0, 1) := by decide +kernel
theorem dL_law_649 : decode code 649 = .ok (.iload_n 3, 1) := by decide +kernel
theorem dL_law_650 : decode code 650 = .ok (.iconst 2, 1) := by decide +kernel
theorem dL_law_651 : decode code 651 = .ok (.iadd, 1) := by decide +kernel
theorem dL_law_652 : decode code 652 = .ok (.iaload, 1) := by decide +kernel
theorem dL_law_653 : decode code 653 = .ok (.invokevirtual 89, 3) := by decide +kernel
theorem dL_law_656 : decode code 656 = .ok (.if_icmp .eq 94, 3) := by decide +kernel
theorem dL_law_659 : decode code 659 = .ok (.iconst 0, 1) := by decide +kernel
theorem dL_law_660 : decode code 660 = .ok (.ireturn, 1) := by decide +kernel
theorem dL_law_661 : decode code 661 = .ok (.aload_n 1, 1) := by decide +kernel
theorem dL_law_662 : decode code 662 = .ok (.aload_n 0, 1) := by decide +kernel
theorem dL_law_663 : decode code 663 = .ok (.iload_n 3, 1) := by decide +kernel
theorem dL_law_664 : decode code 664 = .ok (.iconst 1, 1) := by decide +kernel
theorem dL_law_665 : decode code 665 = .ok (.iadd, 1) := by decide +kernel
theorem dL_law_666 : decode code 666 = .ok (.iaload, 1) := by decide +kernel
theorem dL_law_667 : decode code 667 = .ok (.invokevirtual 90, 3) := by decide +kernel
theorem dL_law_670 : decode code 670 = .ok (.aload_n 2, 1) := by decide +kernel
theorem dL_law_671 : decode code 671 = .ok (.aload_n 0, 1) := by decide +kernel
theorem dL_law_672 : decode code 672 = .ok (.iload_n 3, 1) := by decide +kernel
theorem dL_law_673 : decode code 673 = .ok (.iconst 1, 1) := by decide +kernel
theorem dL_law_674 : decode code 674 = .ok (.iadd, 1) := by decide +kernel
theorem dL_law_675 : decode code 675 = .ok (.iaload, 1) := by decide +kernel
theorem dL_law_676 : decode code 676 = .ok (.invokevirtual 93, 3) := by decide +kernel
theorem dL_law_679 : decode code 679 = .ok (.if_icmp .eq 71, 3) := by decide +kernel
theorem dL_law_682 : decode code 682 = .ok (.iconst 0, 1) := by decide +kernel
theorem dL_law_683 : decode code 683 = .ok (.ireturn, 1) := by decide +kernel
theorem dL_law_684 : decode code 684 = .ok (.aload_n 1, 1) := by decide +kernel
theorem dL_law_685 : decode code 685 = .ok (.aload_n 0, 1) := by decide +kernel
theorem dL_law_686 : decode code 686 = .ok (.iload_n 3, 1) := by decide +kernel
theorem dL_law_687 : decode code 687 = .ok (.iconst 1, 1) := by decide +kernel
theorem dL_law_688 : decode code 688 = .ok (.iadd, 1) := by decide +kernel
theorem dL_law_689 : decode code 689 = .ok (.iaload, 1) := by decide +kernel
theorem dL_law_690 : decode code 690 = .ok (.aload_n 0, 1) := by decide +kernel
theorem dL_law_691 : decode code 691 = .ok (.iload_n 3, 1) := by decide +kernel
theorem dL_law_692 : decode code 692 = .ok (.iconst 2, 1) := by decide +kernel
theorem dL_law_693 : decode code 693 = .ok (.iadd, 1) := by decide +kernel
theorem dL_law_694 : decode code 694 = .ok (.iaload, 1) := by decide +kernel
theorem dL_law_695 : decode code 695 = .ok (.aload_n 0, 1) := by decide +kernel
theorem dL_law_696 : decode code 696 = .ok (.iload_n 3, 1) := by decide +kernel
theorem dL_law_697 : decode code 697 = .ok (.iconst 3, 1) := by decide +kernel
theorem dL_law_698 : decode code 698 = .ok (.iadd, 1) := by decide +kernel
theorem dL_law_699 : decode code 699 = .ok (.iaload, 1) := by decide +kernel
theorem dL_law_700 : decode code 700 = .ok (.invokevirtual 94, 3) := by decide +kernel
theorem dL_law_703 : decode code 703 = .ok (.aload_n 2, 1) := by decide +kernel
theorem dL_law_704 : decode code 704 = .ok (.aload_n 0, 1) := by decide +kernel
theorem dL_law_705 : decode code 705 = .ok (.iload_n 3, 1) := by decide +kernel
theorem dL_law_706 : decode code 706 = .ok (.iconst 1, 1) := by decide +kernel
theorem dL_law_707 : decode code 707 = .ok (.iadd, 1) := by decide +kernel
theorem dL_law_708 : decode code 708 = .ok (.iaload, 1) := by decide +kernel
theorem dL_law_709 : decode code 709 = .ok (.aload_n 0, 1) := by decide +kernel
theorem dL_law_710 : decode code 710 = .ok (.iload_n 3, 1) := by decide +kernel
theorem dL_law_711 : decode code 711 = .ok (.iconst 2, 1) := by decide +kernel
theorem dL_law_712 : decode code 712 = .ok (.iadd, 1) := by decide +kernel
theorem dL_law_713 : decode code 713 = .ok (.iaload, 1) := by decide +kernel
theorem dL_law_714 : decode code 714 = .ok (.aload_n 0, 1) := by decide +kernel
theorem dL_law_715 : decode code 715 = .ok (.iload_n 3, 1) := by decide +kernel
theorem dL_law_716 : decode code 716 = .ok (.iconst 3, 1) := by decide +kernel
theorem dL_law_717 : decode code 717 = .ok (.iadd, 1) := by decide +kernel
theorem dL_law_718 : decode code 718 = .ok (.iaload, 1) := by decide +kernel
theorem dL_law_719 : decode code 719 = .ok (.invokevirtual 98, 3) := by decide +kernel
theorem dL_law_722 : decode code 722 = .ok (.if_icmp .eq 28, 3) := by decide +kernel
theorem dL_law_725 : decode code 725 = .ok (.iconst 0, 1) := by decide +kernel
theorem dL_law_726 : decode code 726 = .ok (.ireturn, 1) := by decide +kernel
theorem dL_law_727 : decode code 727 = .ok (.aload_n 1, 1) := by decide +kernel
theorem dL_law_728 : decode code 728 = .ok (.aload_n 0, 1) := by decide +kernel
theorem dL_law_729 : decode code 729 = .ok (.iload_n 3, 1) := by decide +kernel
theorem dL_law_730 : decode code 730 = .ok (.iconst 1, 1) := by decide +kernel
theorem dL_law_731 : decode code 731 = .ok (.iadd, 1) := by decide +kernel
theorem dL_law_732 : decode code 732 = .ok (.iaload, 1) := by decide +kernel
theorem dL_law_733 : decode code 733 = .ok (.invokevirtual 99, 3) := by decide +kernel
theorem dL_law_736 : decode code 736 = .ok (.aload_n 2, 1) := by decide +kernel
theorem dL_law_737 : decode code 737 = .ok (.aload_n 0, 1) := by decide +kernel
theorem dL_law_738 : decode code 738 = .ok (.iload_n 3, 1) := by decide +kernel
theorem dL_law_739 : decode code 739 = .ok (.iconst 1, 1) := by decide +kernel
theorem dL_law_740 : decode code 740 = .ok (.iadd, 1) := by decide +kernel
theorem dL_law_741 : decode code 741 = .ok (.iaload, 1) := by decide +kernel
theorem dL_law_742 : decode code 742 = .ok (.invokevirtual 102, 3) := by decide +kernel
theorem dL_law_745 : decode code 745 = .ok (.if_icmp .eq 5, 3) := by decide +kernel
theorem dL_law_748 : decode code 748 = .ok (.iconst 0, 1) := by decide +kernel
theorem dL_law_749 : decode code 749 = .ok (.ireturn, 1) := by decide +kernel
theorem dL_law_750 : decode code 750 = .ok (.iinc 3 6, 3) := by decide +kernel
theorem dL_law_753 : decode code 753 = .ok (.goto (-735), 3) := by decide +kernel
theorem dL_law_756 : decode code 756 = .ok (.iconst 1, 1) := by decide +kernel
theorem dL_law_757 : decode code 757 = .ok (.ireturn, 1) := by decide +kernel
def lk_0 (F : Nat) (cs : CS) (rs : RS) (x1 x2 x3 x4 x5 : Int32) : Option (CS × RS) := Option.bind (ckE cs 12 0) fun _ => Option.bind (c_X11_feed F cs 0 x1 x2 x3 x4 x5) fun z1 => Option.bind (m_feed F rs x1 x2 x3 x4 x5) fun z2 => if z1.2 = z2.2 then some (z1.1, z2.1) else none
def lk_1 (F : Nat) (cs : CS) (rs : RS) (x1 x2 x3 x4 x5 : Int32) : Option (CS × RS) := Option.bind (ckE cs 12 0) fun _ => Option.bind (c_X11_cut F cs 0 x1) fun z1 => Option.bind (m_cut F rs x1) fun z2 => if z1.2 = z2.2 then some (z1.1, z2.1) else none
def lk_2 (F : Nat) (cs : CS) (rs : RS) (x1 x2 x3 x4 x5 : Int32) : Option (CS × RS) := Option.bind (ckE cs 12 0) fun _ => Option.bind (c_X11_stream F cs 0 x1) fun z1 => Option.bind (m_stream F rs x1) fun z2 => if z1.2 = z2.2 then some (z1.1, z2.1) else none
def lk_3 (F : Nat) (cs : CS) (rs : RS) (x1 x2 x3 x4 x5 : Int32) : Option (CS × RS) := Option.bind (ckE cs 12 0) fun _ => Option.bind (c_X11_query F cs 0 ) fun z1 => Option.bind (m_query F rs ) fun z2 => if z1.2 = z2.2 then some (z1.1, z2.1) else none
def lk_4 (F : Nat) (cs : CS) (rs : RS) (x1 x2 x3 x4 x5 : Int32) : Option (CS × RS) := Option.bind (ckE cs 12 0) fun _ => Option.bind (c_X11_fault F cs 0 ) fun z1 => Option.bind (m_fault F rs ) fun z2 => if z1 = z2 then some (cs, rs) else none
def lk_5 (F : Nat) (cs : CS) (rs : RS) (x1 x2 x3 x4 x5 : Int32) : Option (CS × RS) := Option.bind (ckE cs 12 0) fun _ => Option.bind (c_X11_value F cs 0 (((x1).toInt64 <<< ((32 : Int32).toInt64 &&& 63)) ||| ((x2).toInt64 &&& 4294967295))) fun z1 => Option.bind (m_value F rs (((x1).toInt64 <<< ((32 : Int32).toInt64 &&& 63)) ||| ((x2).toInt64 &&& 4294967295))) fun z2 => if z1.2 = z2.2 then some (z1.1, z2.1) else none
def lk_6 (F : Nat) (cs : CS) (rs : RS) (x1 x2 x3 x4 x5 : Int32) : Option (CS × RS) := Option.bind (ckE cs 12 0) fun _ => Option.bind (c_X11_nothing F cs 0 ) fun z1 => Option.bind (m_nothing F rs ) fun z2 => if z1.2 = z2.2 then some (z1.1, z2.1) else none
def lk_7 (F : Nat) (cs : CS) (rs : RS) (x1 x2 x3 x4 x5 : Int32) : Option (CS × RS) := Option.bind (ckE cs 12 0) fun _ => Option.bind (c_X11_row F cs 0 x1 (((x2).toInt64 <<< ((32 : Int32).toInt64 &&& 63)) ||| ((x3).toInt64 &&& 4294967295))) fun z1 => Option.bind (m_row F rs x1 (((x2).toInt64 <<< ((32 : Int32).toInt64 &&& 63)) ||| ((x3).toInt64 &&& 4294967295))) fun z2 => if z1.2 = z2.2 then some (z1.1, z2.1) else none
def lk_8 (F : Nat) (cs : CS) (rs : RS) (x1 x2 x3 x4 x5 : Int32) : Option (CS × RS) := Option.bind (ckE cs 12 0) fun _ => Option.bind (c_X11_back F cs 0 x1 x2) fun z1 => Option.bind (m_back F rs x1 x2) fun z2 => if z1.2 = z2.2 then some (z1.1, z2.1) else none
def lk_9 (F : Nat) (cs : CS) (rs : RS) (x1 x2 x3 x4 x5 : Int32) : Option (CS × RS) := Option.bind (ckE cs 12 0) fun _ => Option.bind (c_X11_watermark F cs 0 (((x1).toInt64 <<< ((32 : Int32).toInt64 &&& 63)) ||| ((x2).toInt64 &&& 4294967295))) fun z1 => Option.bind (m_watermark F rs (((x1).toInt64 <<< ((32 : Int32).toInt64 &&& 63)) ||| ((x2).toInt64 &&& 4294967295))) fun z2 => if z1.2 = z2.2 then some (z1.1, z2.1) else none
def lk_10 (F : Nat) (cs : CS) (rs : RS) (x1 x2 x3 x4 x5 : Int32) : Option (CS × RS) := Option.bind (ckE cs 12 0) fun _ => Option.bind (c_X11_changes F cs 0 ) fun z1 => Option.bind (m_changes F rs ) fun z2 => if z1 = z2 then some (cs, rs) else none
def lk_11 (F : Nat) (cs : CS) (rs : RS) (x1 x2 x3 x4 x5 : Int32) : Option (CS × RS) := Option.bind (ckE cs 12 0) fun _ => Option.bind (c_X11_change F cs 0 x1) fun z1 => Option.bind (m_change F rs x1) fun z2 => if z1 = z2 then some (cs, rs) else none
def lk_12 (F : Nat) (cs : CS) (rs : RS) (x1 x2 x3 x4 x5 : Int32) : Option (CS × RS) := Option.bind (ckE cs 12 0) fun _ => Option.bind (c_X11_changed F cs 0 x1 x2) fun z1 => Option.bind (m_changed F rs x1 x2) fun z2 => if z1 = z2 then some (cs, rs) else none
def lk_13 (F : Nat) (cs : CS) (rs : RS) (x1 x2 x3 x4 x5 : Int32) : Option (CS × RS) := Option.bind (ckE cs 12 0) fun _ => Option.bind (c_X11_changedNull F cs 0 x1 x2) fun z1 => Option.bind (m_changedNull F rs x1 x2) fun z2 => if z1 = z2 then some (cs, rs) else none
def lk_14 (F : Nat) (cs : CS) (rs : RS) (x1 x2 x3 x4 x5 : Int32) : Option (CS × RS) := Option.bind (ckE cs 12 0) fun _ => Option.bind (c_X11_rows F cs 0 ) fun z1 => Option.bind (m_rows F rs ) fun z2 => if z1 = z2 then some (cs, rs) else none
def lk_15 (F : Nat) (cs : CS) (rs : RS) (x1 x2 x3 x4 x5 : Int32) : Option (CS × RS) := Option.bind (ckE cs 12 0) fun _ => Option.bind (c_X11_at F cs 0 x1 x2) fun z1 => Option.bind (m_at F rs x1 x2) fun z2 => if z1 = z2 then some (cs, rs) else none
def lk_16 (F : Nat) (cs : CS) (rs : RS) (x1 x2 x3 x4 x5 : Int32) : Option (CS × RS) := Option.bind (ckE cs 12 0) fun _ => Option.bind (c_X11_isNull F cs 0 x1 x2) fun z1 => Option.bind (m_isNull F rs x1 x2) fun z2 => if z1 = z2 then some (cs, rs) else none
def lk_17 (F : Nat) (cs : CS) (rs : RS) (x1 x2 x3 x4 x5 : Int32) : Option (CS × RS) := Option.bind (ckE cs 12 0) fun _ => Option.bind (c_X11_type F cs 0 x1) fun z1 => Option.bind (m_type F rs x1) fun z2 => if z1 = z2 then some (cs, rs) else none
def lk_18 (F : Nat) (cs : CS) (rs : RS) (x1 x2 x3 x4 x5 : Int32) : Option (CS × RS) := Option.bind (ckE cs 12 0) fun _ => Option.bind (c_X11_three F cs 0 x1 x2 x3) fun z1 => Option.bind (m_three F rs x1 x2 x3) fun z2 => if z1.2 = z2 then some (z1.1, rs) else none
def lk_19 (F : Nat) (cs : CS) (rs : RS) (x1 x2 x3 x4 x5 : Int32) : Option (CS × RS) := Option.bind (ckE cs 12 0) fun _ => Option.bind (c_X11_told F cs 0 x1) fun z1 => Option.bind (m_told F rs x1) fun z2 => if z1 = z2 then some (cs, rs) else none
def LK (F : Nat) (cs : CS) (rs : RS) (j : Nat) (x1 x2 x3 x4 x5 : Int32) : Option (CS × RS) := match j with | 0 => lk_0 F cs rs x1 x2 x3 x4 x5 | 1 => lk_1 F cs rs x1 x2 x3 x4 x5 | 2 => lk_2 F cs rs x1 x2 x3 x4 x5 | 3 => lk_3 F cs rs x1 x2 x3 x4 x5 | 4 => lk_4 F cs rs x1 x2 x3 x4 x5 | 5 => lk_5 F cs rs x1 x2 x3 x4 x5 | 6 => lk_6 F cs rs x1 x2 x3 x4 x5 | 7 => lk_7 F cs rs x1 x2 x3 x4 x5 | 8 => lk_8 F cs rs x1 x2 x3 x4 x5 | 9 => lk_9 F cs rs x1 x2 x3 x4 x5 | 10 => lk_10 F cs rs x1 x2 x3 x4 x5 | 11 => lk_11 F cs rs x1 x2 x3 x4 x5 | 12 => lk_12 F cs rs x1 x2 x3 x4 x5 | 13 => lk_13 F cs rs x1 x2 x3 x4 x5 | 14 => lk_14 F cs rs x1 x2 x3 x4 x5 | 15 => lk_15 F cs rs x1 x2 x3 x4 x5 | 16 => lk_16 F cs rs x1 x2 x3 x4 x5 | 17 => lk_17 F cs rs x1 x2 x3 x4 x5 | 18 => lk_18 F cs rs x1 x2 x3 x4 x5 | 19 => lk_19 F cs rs x1 x2 x3 x4 x5 | _ => some (cs, rs)
theorem pk_add1 (i v : Nat) : nI i + Int32.ofNat v = nI (i + v) := (Int32.ofNat_add i v).symm
set_option maxRecDepth 100000 in
theorem ls_0 {p : Program} {l : Launch} {e : Env} {s : State} {m : MethodId} {below : List Frame} {meth : Method} {c : Code} {dC : Nat → ClassId} {dI : Nat → Nat → Nat} {cB cI cJ cZ cS cO : ClassId} {bb L : Nat} {xs : Nat → Int32} {K V : Nat → Nat} {fz : Value} {A : Nat → Prop} {b h0 : Nat} {a : Nat → Nat} (C0 : lw_At p s m meth c bb L xs) (hZ : zE K V fz A s) (hA : ∀ q : Nat, s.heap.size ≤ q → A q) (hbA : ¬ A bb) (hbe : s.heap.size = b) (hK : va_K (dC, dI) vwCl [(cB, .byte), (cI, .int), (cJ, .long), (cZ, .boolean), (cS, .object "StreamQueries$Source"), (cO, .object "java/lang/Object")] s) {F i : Nat} {cs cs9 : CS} {rs rs9 : RS} {H : Heap} {locs : List Loc} {ls : Array Slot} (hi : i + 6 ≤ L) (hL : L ≤ 384) (hP : va_P (dC, dI) vwCl (cW cB cI cJ cZ cS cO b cs ++ mW cB cI cJ cZ h0 a rs) H) (hD : va_D A (cW cB cI cJ cZ cS cO b cs ++ mW cB cI cJ cZ h0 a rs)) (hS : va_S A s.heap H locs) (hz : H.size = b + kK cs) (hf : lk_0 F cs rs (xs (i + 1)) (xs (i + 2)) (xs (i + 3)) (xs (i + 4)) (xs (i + 5)) = some (cs9, rs9)) (hR1 : kK cs9 ≤ 600000) (hR2 : kM cs9 ≤ 7302250) (hl : lv_has ls 4 [(3, .int (nI i)), (2, .ref h0), (1, .ref (b + 0)), (0, .ref bb)]) (kk : ∀ (H1 : Heap) (locs1 : List Loc), va_P (dC, dI) vwCl (cW cB cI cJ cZ cS cO b cs9 ++ mW cB cI cJ cZ h0 a rs9) H1 → va_D A (cW cB cI cJ cZ cS cO b cs9 ++ mW cB cI cJ cZ h0 a rs9) → va_S A s.heap H1 locs1 → H1.size = b + kK cs9 → W p l e room_1 s m #[Value.ref bb] below meth c H1 locs1 (kK cs9) (kM cs9) (lw_Z below #[Value.ref bb] s) (F0 m 750 ls [])) : W p l e room_1 s m #[Value.ref bb] below meth c H locs (kK cs) (kM cs) (lw_Z below #[Value.ref bb] s) (F0 m 128 ls []) := by
  obtain ⟨hx, hb, hr, hml, hown, hts, hX, hbl, hlocks, hgv⟩ := id C0
  unfold lk_0 at hf
  obtain ⟨u0, e0, hf⟩ := ob hf
  obtain ⟨⟨cs1, r1⟩, e1, hf⟩ := ob hf
  obtain ⟨⟨rs1, r2⟩, e2, hf⟩ := ob hf
  have hf : (if r1 = r2 then some (cs1, rs1) else none) = some (cs9, rs9) := hf
  by_cases hq : r1 = r2
  case neg => rw [if_neg hq] at hf; cases hf
  rw [if_pos hq] at hf
  cases hf
  have hmo0 := mo_c_X11_feed F cs 0 (xs (i + 1)) (xs (i + 2)) (xs (i + 3)) (xs (i + 4)) (xs (i + 5)) cs1 r1 e1
  have hmo : kK cs1 = kK cs := congrArg Prod.fst hmo0
  have hmo2 : kM cs1 = kM cs := congrArg (fun z => z.2.1) hmo0
  have hcc : s.heap.size + kK cs = b + kK cs := by rw [hbe]
  refine lv_aload_n hx hb dL_law_128 rfl (lv_at hl 2 rfl) ?_
  refine lv_aload_n hx hb dL_law_129 rfl (lv_at hl 3 rfl) ?_
  refine lv_iload_n hx hb dL_law_130 rfl (lv_at hl 0 rfl) ?_
  refine lv_iconst (v := 1) hx hb dL_law_131 (by decide) ?_
  refine lv_iadd hx hb dL_law_132 ?_
  refine lv_topi (fun y_ ey_ => ?_)
  have ey_ : y_ = nI (i + 1) := ey_.trans (pk_add1 i 1)
  subst ey_
  refine va_sld hx hb hX hbl hbA hS (i := i + 1) (vp_in_nI (n := i + 1) (N := L) (by omega) (by omega)) dL_law_133 ?_
  refine lv_topi (fun y_ ey_ => ?_)
  have ey_ : y_ = xs (i + 1) := ey_.trans (congrArg xs (nI_clamp (n := i + 1) (by omega)))
  subst ey_
  refine lv_aload_n hx hb dL_law_134 rfl (lv_at hl 3 rfl) ?_
  refine lv_iload_n hx hb dL_law_135 rfl (lv_at hl 0 rfl) ?_
  refine lv_iconst (v := 2) hx hb dL_law_136 (by decide) ?_
  refine lv_iadd hx hb dL_law_137 ?_
  refine lv_topi (fun y_ ey_ => ?_)
  have ey_ : y_ = nI (i + 2) := ey_.trans (pk_add1 i 2)
  subst ey_
  refine va_sld hx hb hX hbl hbA hS (i := i + 2) (vp_in_nI (n := i + 2) (N := L) (by omega) (by omega)) dL_law_138 ?_
  refine lv_topi (fun y_ ey_ => ?_)
  have ey_ : y_ = xs (i + 2) := ey_.trans (congrArg xs (nI_clamp (n := i + 2) (by omega)))
  subst ey_
  refine lv_aload_n hx hb dL_law_139 rfl (lv_at hl 3 rfl) ?_
  refine lv_iload_n hx hb dL_law_140 rfl (lv_at hl 0 rfl) ?_
  refine lv_iconst (v := 3) hx hb dL_law_141 (by decide) ?_
  refine lv_iadd hx hb dL_law_142 ?_
  refine lv_topi (fun y_ ey_ => ?_)
  have ey_ : y_ = nI (i + 3) := ey_.trans (pk_add1 i 3)
  subst ey_
  refine va_sld hx hb hX hbl hbA hS (i := i + 3) (vp_in_nI (n := i + 3) (N := L) (by omega) (by omega)) dL_law_143 ?_
  refine lv_topi (fun y_ ey_ => ?_)
  have ey_ : y_ = xs (i + 3) := ey_.trans (congrArg xs (nI_clamp (n := i + 3) (by omega)))
  subst ey_
  refine lv_aload_n hx hb dL_law_144 rfl (lv_at hl 3 rfl) ?_
  refine lv_iload_n hx hb dL_law_145 rfl (lv_at hl 0 rfl) ?_
  refine lv_iconst (v := 4) hx hb dL_law_146 (by decide) ?_
  refine lv_iadd hx hb dL_law_147 ?_
  refine lv_topi (fun y_ ey_ => ?_)
  have ey_ : y_ = nI (i + 4) := ey_.trans (pk_add1 i 4)
  subst ey_
  refine va_sld hx hb hX hbl hbA hS (i := i + 4) (vp_in_nI (n := i + 4) (N := L) (by omega) (by omega)) dL_law_148 ?_
  refine lv_topi (fun y_ ey_ => ?_)
  have ey_ : y_ = xs (i + 4) := ey_.trans (congrArg xs (nI_clamp (n := i + 4) (by omega)))
  subst ey_
  refine lv_aload_n hx hb dL_law_149 rfl (lv_at hl 3 rfl) ?_
  refine lv_iload_n hx hb dL_law_150 rfl (lv_at hl 0 rfl) ?_
  refine lv_iconst (v := 5) hx hb dL_law_151 (by decide) ?_
  refine lv_iadd hx hb dL_law_152 ?_
  refine lv_topi (fun y_ ey_ => ?_)
  have ey_ : y_ = nI (i + 5) := ey_.trans (pk_add1 i 5)
  subst ey_
  refine va_sld hx hb hX hbl hbA hS (i := i + 5) (vp_in_nI (n := i + 5) (N := L) (by omega) (by omega)) dL_law_153 ?_
  refine lv_topi (fun y_ ey_ => ?_)
  have ey_ : y_ = xs (i + 5) := ey_.trans (congrArg xs (nI_clamp (n := i + 5) (by omega)))
  subst ey_
  refine jbI (nL := 4) (As := [.int (xs (i + 1)), .int (xs (i + 2)), .int (xs (i + 3)), .int (xs (i + 4)), .int (xs (i + 5))]) (rest := []) (X := 12) (i := 0) (wf := mW cB cI cJ cZ h0 a rs) hx hb hml hts hown hK hP hD hS hA hz hcc hZ (by decide) rfl (ckE_some e0) (sc_X11_feed l dC dI cB cI cJ cZ cS cO b K V fz F cs 0 (xs (i + 1)) (xs (i + 2)) (xs (i + 3)) (xs (i + 4)) (xs (i + 5)) cs1 r1 e1) (cwV 5 hts (gd_law (in_V kw_477 kw_478 kw_479 kw_181 kc_X11_feed)) rfl rfl rfl (by decide +kernel) ⟨Nat.le_of_ble_eq_true rfl, Nat.le_of_ble_eq_true rfl⟩) rfl hl.1 (Nat.le_of_ble_eq_true rfl) ⟨by show kK cs ≤ 600000; omega, by show kM cs ≤ 7302250; omega⟩ dL_law_154 (fun H1 locs1 hP1 hD1 hS1 hz1 => ?_)
  rw [← hmo] at hz1
  rw [← hmo, ← hmo2]
  refine lv_aload_n hx hb dL_law_157 rfl (lv_at hl 1 rfl) ?_
  refine lv_aload_n hx hb dL_law_158 rfl (lv_at hl 3 rfl) ?_
  refine lv_iload_n hx hb dL_law_159 rfl (lv_at hl 0 rfl) ?_
  refine lv_iconst (v := 1) hx hb dL_law_160 (by decide) ?_
  refine lv_iadd hx hb dL_law_161 ?_
  refine lv_topi (fun y_ ey_ => ?_)
  have ey_ : y_ = nI (i + 1) := ey_.trans (pk_add1 i 1)
  subst ey_
  refine va_sld hx hb hX hbl hbA hS1 (i := i + 1) (vp_in_nI (n := i + 1) (N := L) (by omega) (by omega)) dL_law_162 ?_
  refine lv_topi (fun y_ ey_ => ?_)
  have ey_ : y_ = xs (i + 1) := ey_.trans (congrArg xs (nI_clamp (n := i + 1) (by omega)))
  subst ey_
  refine lv_aload_n hx hb dL_law_163 rfl (lv_at hl 3 rfl) ?_
  refine lv_iload_n hx hb dL_law_164 rfl (lv_at hl 0 rfl) ?_
  refine lv_iconst (v := 2) hx hb dL_law_165 (by decide) ?_
  refine lv_iadd hx hb dL_law_166 ?_
  refine lv_topi (fun y_ ey_ => ?_)
  have ey_ : y_ = nI (i + 2) := ey_.trans (pk_add1 i 2)
  subst ey_
  refine va_sld hx hb hX hbl hbA hS1 (i := i + 2) (vp_in_nI (n := i + 2) (N := L) (by omega) (by omega)) dL_law_167 ?_
  refine lv_topi (fun y_ ey_ => ?_)
  have ey_ : y_ = xs (i + 2) := ey_.trans (congrArg xs (nI_clamp (n := i + 2) (by omega)))
  subst ey_
  refine lv_aload_n hx hb dL_law_168 rfl (lv_at hl 3 rfl) ?_
  refine lv_iload_n hx hb dL_law_169 rfl (lv_at hl 0 rfl) ?_
  refine lv_iconst (v := 3) hx hb dL_law_170 (by decide) ?_
  refine lv_iadd hx hb dL_law_171 ?_
  refine lv_topi (fun y_ ey_ => ?_)
  have ey_ : y_ = nI (i + 3) := ey_.trans (pk_add1 i 3)
  subst ey_
  refine va_sld hx hb hX hbl hbA hS1 (i := i + 3) (vp_in_nI (n := i + 3) (N := L) (by omega) (by omega)) dL_law_172 ?_
  refine lv_topi (fun y_ ey_ => ?_)
  have ey_ : y_ = xs (i + 3) := ey_.trans (congrArg xs (nI_clamp (n := i + 3) (by omega)))
  subst ey_
  refine lv_aload_n hx hb dL_law_173 rfl (lv_at hl 3 rfl) ?_
  refine lv_iload_n hx hb dL_law_174 rfl (lv_at hl 0 rfl) ?_
  refine lv_iconst (v := 4) hx hb dL_law_175 (by decide) ?_
  refine lv_iadd hx hb dL_law_176 ?_
  refine lv_topi (fun y_ ey_ => ?_)
  have ey_ : y_ = nI (i + 4) := ey_.trans (pk_add1 i 4)
  subst ey_
  refine va_sld hx hb hX hbl hbA hS1 (i := i + 4) (vp_in_nI (n := i + 4) (N := L) (by omega) (by omega)) dL_law_177 ?_
  refine lv_topi (fun y_ ey_ => ?_)
  have ey_ : y_ = xs (i + 4) := ey_.trans (congrArg xs (nI_clamp (n := i + 4) (by omega)))
  subst ey_
  refine lv_aload_n hx hb dL_law_178 rfl (lv_at hl 3 rfl) ?_
  refine lv_iload_n hx hb dL_law_179 rfl (lv_at hl 0 rfl) ?_
  refine lv_iconst (v := 5) hx hb dL_law_180 (by decide) ?_
  refine lv_iadd hx hb dL_law_181 ?_
  refine lv_topi (fun y_ ey_ => ?_)
  have ey_ : y_ = nI (i + 5) := ey_.trans (pk_add1 i 5)
  subst ey_
  refine va_sld hx hb hX hbl hbA hS1 (i := i + 5) (vp_in_nI (n := i + 5) (N := L) (by omega) (by omega)) dL_law_182 ?_
  refine lv_topi (fun y_ ey_ => ?_)
  have ey_ : y_ = xs (i + 5) := ey_.trans (congrArg xs (nI_clamp (n := i + 5) (by omega)))
  subst ey_
  refine jmI (nL := 4) (As := [.int (xs (i + 1)), .int (xs (i + 2)), .int (xs (i + 3)), .int (xs (i + 4)), .int (xs (i + 5))]) (rest := [.int r1]) (wf := cW cB cI cJ cZ cS cO b cs1) hx hb hml hts hown hK (va_P_sw hP1) (va_D_sw hD1) hS1 hA (by rw [hz1, hbe]) hZ (s_feed l dC dI cB cI cJ cZ h0 a K V fz F rs (xs (i + 1)) (xs (i + 2)) (xs (i + 3)) (xs (i + 4)) (xs (i + 5)) rs1 r2 e2) (cwV 5 hts (gd_law (in_V kw_2038 kw_2039 kw_2040 kw_191 kc_X12_feed)) rfl rfl rfl (by decide +kernel) ⟨Nat.le_of_ble_eq_true rfl, Nat.le_of_ble_eq_true rfl⟩) rfl hl.1 (Nat.le_of_ble_eq_true rfl) ⟨hR1, hR2⟩ dL_law_183 (fun H2 locs2 hP2 hD2 hS2 hz2 => ?_)
  refine lv_icmp_eq (tgt := 750) hx hb dL_law_186 (by decide) (fun c_ => ?_) (fun c_ => ?_)
  · exact kk H2 locs2 (va_P_sw hP2) (va_D_sw hD2) hS2 (hz2.trans hz1)
  · exact absurd hq c_
set_option maxRecDepth 100000 in
theorem ls_1 {p : Program} {l : Launch} {e : Env} {s : State} {m : MethodId} {below : List Frame} {meth : Method} {c : Code} {dC : Nat → ClassId} {dI : Nat → Nat → Nat} {cB cI cJ cZ cS cO : ClassId} {bb L : Nat} {xs : Nat → Int32} {K V : Nat → Nat} {fz : Value} {A : Nat → Prop} {b h0 : Nat} {a : Nat → Nat} (C0 : lw_At p s m meth c bb L xs) (hZ : zE K V fz A s) (hA : ∀ q : Nat, s.heap.size ≤ q → A q) (hbA : ¬ A bb) (hbe : s.heap.size = b) (hK : va_K (dC, dI) vwCl [(cB, .byte), (cI, .int), (cJ, .long), (cZ, .boolean), (cS, .object "StreamQueries$Source"), (cO, .object "java/lang/Object")] s) {F i : Nat} {cs cs9 : CS} {rs rs9 : RS} {H : Heap} {locs : List Loc} {ls : Array Slot} (hi : i + 6 ≤ L) (hL : L ≤ 384) (hP : va_P (dC, dI) vwCl (cW cB cI cJ cZ cS cO b cs ++ mW cB cI cJ cZ h0 a rs) H) (hD : va_D A (cW cB cI cJ cZ cS cO b cs ++ mW cB cI cJ cZ h0 a rs)) (hS : va_S A s.heap H locs) (hz : H.size = b + kK cs) (hf : lk_1 F cs rs (xs (i + 1)) (xs (i + 2)) (xs (i + 3)) (xs (i + 4)) (xs (i + 5)) = some (cs9, rs9)) (hR1 : kK cs9 ≤ 600000) (hR2 : kM cs9 ≤ 7302250) (hl : lv_has ls 4 [(3, .int (nI i)), (2, .ref h0), (1, .ref (b + 0)), (0, .ref bb)]) (kk : ∀ (H1 : Heap) (locs1 : List Loc), va_P (dC, dI) vwCl (cW cB cI cJ cZ cS cO b cs9 ++ mW cB cI cJ cZ h0 a rs9) H1 → va_D A (cW cB cI cJ cZ cS cO b cs9 ++ mW cB cI cJ cZ h0 a rs9) → va_S A s.heap H1 locs1 → H1.size = b + kK cs9 → W p l e room_1 s m #[Value.ref bb] below meth c H1 locs1 (kK cs9) (kM cs9) (lw_Z below #[Value.ref bb] s) (F0 m 750 ls [])) : W p l e room_1 s m #[Value.ref bb] below meth c H locs (kK cs) (kM cs) (lw_Z below #[Value.ref bb] s) (F0 m 191 ls []) := by
  obtain ⟨hx, hb, hr, hml, hown, hts, hX, hbl, hlocks, hgv⟩ := id C0
  unfold lk_1 at hf
  obtain ⟨u0, e0, hf⟩ := ob hf
  obtain ⟨⟨cs1, r1⟩, e1, hf⟩ := ob hf
  obtain ⟨⟨rs1, r2⟩, e2, hf⟩ := ob hf
  have hf : (if r1 = r2 then some (cs1, rs1) else none) = some (cs9, rs9) := hf
  by_cases hq : r1 = r2
  case neg => rw [if_neg hq] at hf; cases hf
  rw [if_pos hq] at hf
  cases hf
  have hmo0 := mo_c_X11_cut F cs 0 (xs (i + 1)) cs1 r1 e1
  have hmo : kK cs1 = kK cs := congrArg Prod.fst hmo0
  have hmo2 : kM cs1 = kM cs := congrArg (fun z => z.2.1) hmo0
  have hcc : s.heap.size + kK cs = b + kK cs := by rw [hbe]
  refine lv_aload_n hx hb dL_law_191 rfl (lv_at hl 2 rfl) ?_
  refine lv_aload_n hx hb dL_law_192 rfl (lv_at hl 3 rfl) ?_
  refine lv_iload_n hx hb dL_law_193 rfl (lv_at hl 0 rfl) ?_
  refine lv_iconst (v := 1) hx hb dL_law_194 (by decide) ?_
  refine lv_iadd hx hb dL_law_195 ?_
  refine lv_topi (fun y_ ey_ => ?_)
  have ey_ : y_ = nI (i + 1) := ey_.trans (pk_add1 i 1)
  subst ey_
  refine va_sld hx hb hX hbl hbA hS (i := i + 1) (vp_in_nI (n := i + 1) (N := L) (by omega) (by omega)) dL_law_196 ?_
  refine lv_topi (fun y_ ey_ => ?_)
  have ey_ : y_ = xs (i + 1) := ey_.trans (congrArg xs (nI_clamp (n := i + 1) (by omega)))
  subst ey_
  refine jbI (nL := 4) (As := [.int (xs (i + 1))]) (rest := []) (X := 12) (i := 0) (wf := mW cB cI cJ cZ h0 a rs) hx hb hml hts hown hK hP hD hS hA hz hcc hZ (by decide) rfl (ckE_some e0) (sc_X11_cut l dC dI cB cI cJ cZ cS cO b K V fz F cs 0 (xs (i + 1)) cs1 r1 e1) (cwV 1 hts (gd_law (in_V kw_485 kw_486 kw_487 kw_181 kc_X11_cut)) rfl rfl rfl (by decide +kernel) ⟨Nat.le_of_ble_eq_true rfl, Nat.le_of_ble_eq_true rfl⟩) rfl hl.1 (Nat.le_of_ble_eq_true rfl) ⟨by show kK cs ≤ 600000; omega, by show kM cs ≤ 7302250; omega⟩ dL_law_197 (fun H1 locs1 hP1 hD1 hS1 hz1 => ?_)
  rw [← hmo] at hz1
  rw [← hmo, ← hmo2]
  refine lv_aload_n hx hb dL_law_200 rfl (lv_at hl 1 rfl) ?_
  refine lv_aload_n hx hb dL_law_201 rfl (lv_at hl 3 rfl) ?_
  refine lv_iload_n hx hb dL_law_202 rfl (lv_at hl 0 rfl) ?_
  refine lv_iconst (v := 1) hx hb dL_law_203 (by decide) ?_
  refine lv_iadd hx hb dL_law_204 ?_
  refine lv_topi (fun y_ ey_ => ?_)
  have ey_ : y_ = nI (i + 1) := ey_.trans (pk_add1 i 1)
  subst ey_
  refine va_sld hx hb hX hbl hbA hS1 (i := i + 1) (vp_in_nI (n := i + 1) (N := L) (by omega) (by omega)) dL_law_205 ?_
  refine lv_topi (fun y_ ey_ => ?_)
  have ey_ : y_ = xs (i + 1) := ey_.trans (congrArg xs (nI_clamp (n := i + 1) (by omega)))
  subst ey_
  refine jmI (nL := 4) (As := [.int (xs (i + 1))]) (rest := [.int r1]) (wf := cW cB cI cJ cZ cS cO b cs1) hx hb hml hts hown hK (va_P_sw hP1) (va_D_sw hD1) hS1 hA (by rw [hz1, hbe]) hZ (s_cut l dC dI cB cI cJ cZ h0 a K V fz F rs (xs (i + 1)) rs1 r2 e2) (cwV 1 hts (gd_law (in_V kw_2046 kw_2047 kw_2048 kw_191 kc_X12_cut)) rfl rfl rfl (by decide +kernel) ⟨Nat.le_of_ble_eq_true rfl, Nat.le_of_ble_eq_true rfl⟩) rfl hl.1 (Nat.le_of_ble_eq_true rfl) ⟨hR1, hR2⟩ dL_law_206 (fun H2 locs2 hP2 hD2 hS2 hz2 => ?_)
  refine lv_icmp_eq (tgt := 750) hx hb dL_law_209 (by decide) (fun c_ => ?_) (fun c_ => ?_)
  · exact kk H2 locs2 (va_P_sw hP2) (va_D_sw hD2) hS2 (hz2.trans hz1)
  · exact absurd hq c_
set_option maxRecDepth 100000 in
theorem ls_2 {p : Program} {l : Launch} {e : Env} {s : State} {m : MethodId} {below : List Frame} {meth : Method} {c : Code} {dC : Nat → ClassId} {dI : Nat → Nat → Nat} {cB cI cJ cZ cS cO : ClassId} {bb L : Nat} {xs : Nat → Int32} {K V : Nat → Nat} {fz : Value} {A : Nat → Prop} {b h0 : Nat} {a : Nat → Nat} (C0 : lw_At p s m meth c bb L xs) (hZ : zE K V fz A s) (hA : ∀ q : Nat, s.heap.size ≤ q → A q) (hbA : ¬ A bb) (hbe : s.heap.size = b) (hK : va_K (dC, dI) vwCl [(cB, .byte), (cI, .int), (cJ, .long), (cZ, .boolean), (cS, .object "StreamQueries$Source"), (cO, .object "java/lang/Object")] s) {F i : Nat} {cs cs9 : CS} {rs rs9 : RS} {H : Heap} {locs : List Loc} {ls : Array Slot} (hi : i + 6 ≤ L) (hL : L ≤ 384) (hP : va_P (dC, dI) vwCl (cW cB cI cJ cZ cS cO b cs ++ mW cB cI cJ cZ h0 a rs) H) (hD : va_D A (cW cB cI cJ cZ cS cO b cs ++ mW cB cI cJ cZ h0 a rs)) (hS : va_S A s.heap H locs) (hz : H.size = b + kK cs) (hf : lk_2 F cs rs (xs (i + 1)) (xs (i + 2)) (xs (i + 3)) (xs (i + 4)) (xs (i + 5)) = some (cs9, rs9)) (hR1 : kK cs9 ≤ 600000) (hR2 : kM cs9 ≤ 7302250) (hl : lv_has ls 4 [(3, .int (nI i)), (2, .ref h0), (1, .ref (b + 0)), (0, .ref bb)]) (kk : ∀ (H1 : Heap) (locs1 : List Loc), va_P (dC, dI) vwCl (cW cB cI cJ cZ cS cO b cs9 ++ mW cB cI cJ cZ h0 a rs9) H1 → va_D A (cW cB cI cJ cZ cS cO b cs9 ++ mW cB cI cJ cZ h0 a rs9) → va_S A s.heap H1 locs1 → H1.size = b + kK cs9 → W p l e room_1 s m #[Value.ref bb] below meth c H1 locs1 (kK cs9) (kM cs9) (lw_Z below #[Value.ref bb] s) (F0 m 750 ls [])) : W p l e room_1 s m #[Value.ref bb] below meth c H locs (kK cs) (kM cs) (lw_Z below #[Value.ref bb] s) (F0 m 214 ls []) := by
  obtain ⟨hx, hb, hr, hml, hown, hts, hX, hbl, hlocks, hgv⟩ := id C0
  unfold lk_2 at hf
  obtain ⟨u0, e0, hf⟩ := ob hf
  obtain ⟨⟨cs1, r1⟩, e1, hf⟩ := ob hf
  obtain ⟨⟨rs1, r2⟩, e2, hf⟩ := ob hf
  have hf : (if r1 = r2 then some (cs1, rs1) else none) = some (cs9, rs9) := hf
  by_cases hq : r1 = r2
  case neg => rw [if_neg hq] at hf; cases hf
  rw [if_pos hq] at hf
  cases hf
  have hmo0 := mo_c_X11_stream F cs 0 (xs (i + 1)) cs1 r1 e1
  have hmo : kK cs1 = kK cs := congrArg Prod.fst hmo0
  have hmo2 : kM cs1 = kM cs := congrArg (fun z => z.2.1) hmo0
  have hcc : s.heap.size + kK cs = b + kK cs := by rw [hbe]
  refine lv_aload_n hx hb dL_law_214 rfl (lv_at hl 2 rfl) ?_
  refine lv_aload_n hx hb dL_law_215 rfl (lv_at hl 3 rfl) ?_
  refine lv_iload_n hx hb dL_law_216 rfl (lv_at hl 0 rfl) ?_
  refine lv_iconst (v := 1) hx hb dL_law_217 (by decide) ?_
  refine lv_iadd hx hb dL_law_218 ?_
  refine lv_topi (fun y_ ey_ => ?_)
  have ey_ : y_ = nI (i + 1) := ey_.trans (pk_add1 i 1)
  subst ey_
  refine va_sld hx hb hX hbl hbA hS (i := i + 1) (vp_in_nI (n := i + 1) (N := L) (by omega) (by omega)) dL_law_219 ?_
  refine lv_topi (fun y_ ey_ => ?_)
  have ey_ : y_ = xs (i + 1) := ey_.trans (congrArg xs (nI_clamp (n := i + 1) (by omega)))
  subst ey_
  refine jbI (nL := 4) (As := [.int (xs (i + 1))]) (rest := []) (X := 12) (i := 0) (wf := mW cB cI cJ cZ h0 a rs) hx hb hml hts hown hK hP hD hS hA hz hcc hZ (by decide) rfl (ckE_some e0) (sc_X11_stream l dC dI cB cI cJ cZ cS cO b K V fz F cs 0 (xs (i + 1)) cs1 r1 e1) (cwV 1 hts (gd_law (in_V kw_489 kw_490 kw_491 kw_181 kc_X11_stream)) rfl rfl rfl (by decide +kernel) ⟨Nat.le_of_ble_eq_true rfl, Nat.le_of_ble_eq_true rfl⟩) rfl hl.1 (Nat.le_of_ble_eq_true rfl) ⟨by show kK cs ≤ 600000; omega, by show kM cs ≤ 7302250; omega⟩ dL_law_220 (fun H1 locs1 hP1 hD1 hS1 hz1 => ?_)
  rw [← hmo] at hz1
  rw [← hmo, ← hmo2]
  refine lv_aload_n hx hb dL_law_223 rfl (lv_at hl 1 rfl) ?_
  refine lv_aload_n hx hb dL_law_224 rfl (lv_at hl 3 rfl) ?_
  refine lv_iload_n hx hb dL_law_225 rfl (lv_at hl 0 rfl) ?_
  refine lv_iconst (v := 1) hx hb dL_law_226 (by decide) ?_
  refine lv_iadd hx hb dL_law_227 ?_
  refine lv_topi (fun y_ ey_ => ?_)
  have ey_ : y_ = nI (i + 1) := ey_.trans (pk_add1 i 1)
  subst ey_
  refine va_sld hx hb hX hbl hbA hS1 (i := i + 1) (vp_in_nI (n := i + 1) (N := L) (by omega) (by omega)) dL_law_228 ?_
  refine lv_topi (fun y_ ey_ => ?_)
  have ey_ : y_ = xs (i + 1) := ey_.trans (congrArg xs (nI_clamp (n := i + 1) (by omega)))
  subst ey_
  refine jmI (nL := 4) (As := [.int (xs (i + 1))]) (rest := [.int r1]) (wf := cW cB cI cJ cZ cS cO b cs1) hx hb hml hts hown hK (va_P_sw hP1) (va_D_sw hD1) hS1 hA (by rw [hz1, hbe]) hZ (s_stream l dC dI cB cI cJ cZ h0 a K V fz F rs (xs (i + 1)) rs1 r2 e2) (cwV 1 hts (gd_law (in_V kw_2050 kw_2051 kw_2052 kw_191 kc_X12_stream)) rfl rfl rfl (by decide +kernel) ⟨Nat.le_of_ble_eq_true rfl, Nat.le_of_ble_eq_true rfl⟩) rfl hl.1 (Nat.le_of_ble_eq_true rfl) ⟨hR1, hR2⟩ dL_law_229 (fun H2 locs2 hP2 hD2 hS2 hz2 => ?_)
  refine lv_icmp_eq (tgt := 750) hx hb dL_law_232 (by decide) (fun c_ => ?_) (fun c_ => ?_)
  · exact kk H2 locs2 (va_P_sw hP2) (va_D_sw hD2) hS2 (hz2.trans hz1)
  · exact absurd hq c_
set_option maxRecDepth 100000 in
theorem ls_3 {p : Program} {l : Launch} {e : Env} {s : State} {m : MethodId} {below : List Frame} {meth : Method} {c : Code} {dC : Nat → ClassId} {dI : Nat → Nat → Nat} {cB cI cJ cZ cS cO : ClassId} {bb L : Nat} {xs : Nat → Int32} {K V : Nat → Nat} {fz : Value} {A : Nat → Prop} {b h0 : Nat} {a : Nat → Nat} (C0 : lw_At p s m meth c bb L xs) (hZ : zE K V fz A s) (hA : ∀ q : Nat, s.heap.size ≤ q → A q) (hbA : ¬ A bb) (hbe : s.heap.size = b) (hK : va_K (dC, dI) vwCl [(cB, .byte), (cI, .int), (cJ, .long), (cZ, .boolean), (cS, .object "StreamQueries$Source"), (cO, .object "java/lang/Object")] s) {F i : Nat} {cs cs9 : CS} {rs rs9 : RS} {H : Heap} {locs : List Loc} {ls : Array Slot} (hi : i + 6 ≤ L) (hL : L ≤ 384) (hP : va_P (dC, dI) vwCl (cW cB cI cJ cZ cS cO b cs ++ mW cB cI cJ cZ h0 a rs) H) (hD : va_D A (cW cB cI cJ cZ cS cO b cs ++ mW cB cI cJ cZ h0 a rs)) (hS : va_S A s.heap H locs) (hz : H.size = b + kK cs) (hf : lk_3 F cs rs (xs (i + 1)) (xs (i + 2)) (xs (i + 3)) (xs (i + 4)) (xs (i + 5)) = some (cs9, rs9)) (hR1 : kK cs9 ≤ 600000) (hR2 : kM cs9 ≤ 7302250) (hl : lv_has ls 4 [(3, .int (nI i)), (2, .ref h0), (1, .ref (b + 0)), (0, .ref bb)]) (kk : ∀ (H1 : Heap) (locs1 : List Loc), va_P (dC, dI) vwCl (cW cB cI cJ cZ cS cO b cs9 ++ mW cB cI cJ cZ h0 a rs9) H1 → va_D A (cW cB cI cJ cZ cS cO b cs9 ++ mW cB cI cJ cZ h0 a rs9) → va_S A s.heap H1 locs1 → H1.size = b + kK cs9 → W p l e room_1 s m #[Value.ref bb] below meth c H1 locs1 (kK cs9) (kM cs9) (lw_Z below #[Value.ref bb] s) (F0 m 750 ls [])) : W p l e room_1 s m #[Value.ref bb] below meth c H locs (kK cs) (kM cs) (lw_Z below #[Value.ref bb] s) (F0 m 237 ls []) := by
  obtain ⟨hx, hb, hr, hml, hown, hts, hX, hbl, hlocks, hgv⟩ := id C0
  unfold lk_3 at hf
  obtain ⟨u0, e0, hf⟩ := ob hf
  obtain ⟨⟨cs1, r1⟩, e1, hf⟩ := ob hf
  obtain ⟨⟨rs1, r2⟩, e2, hf⟩ := ob hf
  have hf : (if r1 = r2 then some (cs1, rs1) else none) = some (cs9, rs9) := hf
  by_cases hq : r1 = r2
  case neg => rw [if_neg hq] at hf; cases hf
  rw [if_pos hq] at hf
  cases hf
  have hmo := mo_c_X11_query F cs 0  cs1 r1 e1
  have hcc : s.heap.size + kK cs = b + kK cs := by rw [hbe]
  refine lv_aload_n hx hb dL_law_237 rfl (lv_at hl 2 rfl) ?_
  refine jaI (nL := 4) (As := []) (rest := []) (X := 12) (i := 0) (wf := mW cB cI cJ cZ h0 a rs) hx hb hml hts hown hK hP hD hS hA hz hcc hZ (by decide) rfl (ckE_some e0) (sa_X11_query l dC dI cB cI cJ cZ cS cO b K V fz F cs 0  cs1 r1 e1) (cwV 0 hts (gd_law (in_V kw_497 kw_498 kw_499 kw_181 kc_X11_query)) rfl rfl rfl (by decide +kernel) ⟨Nat.le_of_ble_eq_true rfl, Nat.le_of_ble_eq_true rfl⟩) rfl hl.1 (Nat.le_of_ble_eq_true rfl) ⟨by show kK cs + (kK cs1 - kK cs) ≤ 600000; omega, by show kM cs + (kM cs1 - kM cs) ≤ 7302250; omega⟩ dL_law_238 (fun H1 locs1 hP1 hD1 hS1 hz1 => ?_)
  rw [show kK cs + (kK cs1 - kK cs) = kK cs1 by omega, show kM cs + (kM cs1 - kM cs) = kM cs1 by omega]
  refine lv_aload_n hx hb dL_law_241 rfl (lv_at hl 1 rfl) ?_
  refine jmI (nL := 4) (As := []) (rest := [.int r1]) (wf := cW cB cI cJ cZ cS cO b cs1) hx hb hml hts hown hK (va_P_sw hP1) (va_D_sw hD1) hS1 hA (by rw [hz1, hbe]) hZ (s_query l dC dI cB cI cJ cZ h0 a K V fz F rs  rs1 r2 e2) (cwV 0 hts (gd_law (in_V kw_2217 kw_2218 kw_2219 kw_191 kc_X12_query)) rfl rfl rfl (by decide +kernel) ⟨Nat.le_of_ble_eq_true rfl, Nat.le_of_ble_eq_true rfl⟩) rfl hl.1 (Nat.le_of_ble_eq_true rfl) ⟨hR1, hR2⟩ dL_law_242 (fun H2 locs2 hP2 hD2 hS2 hz2 => ?_)
  refine lv_icmp_eq (tgt := 750) hx hb dL_law_245 (by decide) (fun c_ => ?_) (fun c_ => ?_)
  · exact kk H2 locs2 (va_P_sw hP2) (va_D_sw hD2) hS2 (hz2.trans hz1)
  · exact absurd hq c_
set_option maxRecDepth 100000 in
theorem ls_4 {p : Program} {l : Launch} {e : Env} {s : State} {m : MethodId} {below : List Frame} {meth : Method} {c : Code} {dC : Nat → ClassId} {dI : Nat → Nat → Nat} {cB cI cJ cZ cS cO : ClassId} {bb L : Nat} {xs : Nat → Int32} {K V : Nat → Nat} {fz : Value} {A : Nat → Prop} {b h0 : Nat} {a : Nat → Nat} (C0 : lw_At p s m meth c bb L xs) (hZ : zE K V fz A s) (hA : ∀ q : Nat, s.heap.size ≤ q → A q) (hbA : ¬ A bb) (hbe : s.heap.size = b) (hK : va_K (dC, dI) vwCl [(cB, .byte), (cI, .int), (cJ, .long), (cZ, .boolean), (cS, .object "StreamQueries$Source"), (cO, .object "java/lang/Object")] s) {F i : Nat} {cs cs9 : CS} {rs rs9 : RS} {H : Heap} {locs : List Loc} {ls : Array Slot} (hi : i + 6 ≤ L) (hL : L ≤ 384) (hP : va_P (dC, dI) vwCl (cW cB cI cJ cZ cS cO b cs ++ mW cB cI cJ cZ h0 a rs) H) (hD : va_D A (cW cB cI cJ cZ cS cO b cs ++ mW cB cI cJ cZ h0 a rs)) (hS : va_S A s.heap H locs) (hz : H.size = b + kK cs) (hf : lk_4 F cs rs (xs (i + 1)) (xs (i + 2)) (xs (i + 3)) (xs (i + 4)) (xs (i + 5)) = some (cs9, rs9)) (hR1 : kK cs9 ≤ 600000) (hR2 : kM cs9 ≤ 7302250) (hl : lv_has ls 4 [(3, .int (nI i)), (2, .ref h0), (1, .ref (b + 0)), (0, .ref bb)]) (kk : ∀ (H1 : Heap) (locs1 : List Loc), va_P (dC, dI) vwCl (cW cB cI cJ cZ cS cO b cs9 ++ mW cB cI cJ cZ h0 a rs9) H1 → va_D A (cW cB cI cJ cZ cS cO b cs9 ++ mW cB cI cJ cZ h0 a rs9) → va_S A s.heap H1 locs1 → H1.size = b + kK cs9 → W p l e room_1 s m #[Value.ref bb] below meth c H1 locs1 (kK cs9) (kM cs9) (lw_Z below #[Value.ref bb] s) (F0 m 750 ls [])) : W p l e room_1 s m #[Value.ref bb] below meth c H locs (kK cs) (kM cs) (lw_Z below #[Value.ref bb] s) (F0 m 250 ls []) := by
  obtain ⟨hx, hb, hr, hml, hown, hts, hX, hbl, hlocks, hgv⟩ := id C0
  unfold lk_4 at hf
  obtain ⟨u0, e0, hf⟩ := ob hf
  obtain ⟨r1, e1, hf⟩ := ob hf
  obtain ⟨r2, e2, hf⟩ := ob hf
  have hf : (if r1 = r2 then some (cs, rs) else none) = some (cs9, rs9) := hf
  by_cases hq : r1 = r2
  case neg => rw [if_neg hq] at hf; cases hf
  rw [if_pos hq] at hf
  cases hf
  have hcc : s.heap.size + kK cs = b + kK cs := by rw [hbe]
  refine lv_aload_n hx hb dL_law_250 rfl (lv_at hl 2 rfl) ?_
  refine jbI (nL := 4) (As := []) (rest := []) (X := 12) (i := 0) (wf := mW cB cI cJ cZ h0 a rs) hx hb hml hts hown hK hP hD hS hA hz hcc hZ (by decide) rfl (ckE_some e0) (sc_X11_fault l dC dI cB cI cJ cZ cS cO b K V fz F cs 0  r1 e1) (cwV 0 hts (gd_law (in_V kw_1562 kw_1563 kw_1564 kw_181 kc_X11_fault)) rfl rfl rfl (by decide +kernel) ⟨Nat.le_of_ble_eq_true rfl, Nat.le_of_ble_eq_true rfl⟩) rfl hl.1 (Nat.le_of_ble_eq_true rfl) ⟨by show kK cs ≤ 600000; omega, by show kM cs ≤ 7302250; omega⟩ dL_law_251 (fun H1 locs1 hP1 hD1 hS1 hz1 => ?_)
  refine lv_aload_n hx hb dL_law_254 rfl (lv_at hl 1 rfl) ?_
  refine jmI (nL := 4) (As := []) (rest := [.int r1]) (wf := cW cB cI cJ cZ cS cO b cs) hx hb hml hts hown hK (va_P_sw hP1) (va_D_sw hD1) hS1 hA (by rw [hz1, hbe]) hZ (s_fault l dC dI cB cI cJ cZ h0 a K V fz F rs  r2 e2) (cwV 0 hts (gd_law (in_V kw_2456 kw_2457 kw_2458 kw_191 kc_X12_fault)) rfl rfl rfl (by decide +kernel) ⟨Nat.le_of_ble_eq_true rfl, Nat.le_of_ble_eq_true rfl⟩) rfl hl.1 (Nat.le_of_ble_eq_true rfl) ⟨hR1, hR2⟩ dL_law_255 (fun H2 locs2 hP2 hD2 hS2 hz2 => ?_)
  refine lv_icmp_eq (tgt := 750) hx hb dL_law_258 (by decide) (fun c_ => ?_) (fun c_ => ?_)
  · exact kk H2 locs2 (va_P_sw hP2) (va_D_sw hD2) hS2 (hz2.trans hz1)
  · exact absurd hq c_
set_option maxRecDepth 100000 in
theorem ls_5 {p : Program} {l : Launch} {e : Env} {s : State} {m : MethodId} {below : List Frame} {meth : Method} {c : Code} {dC : Nat → ClassId} {dI : Nat → Nat → Nat} {cB cI cJ cZ cS cO : ClassId} {bb L : Nat} {xs : Nat → Int32} {K V : Nat → Nat} {fz : Value} {A : Nat → Prop} {b h0 : Nat} {a : Nat → Nat} (C0 : lw_At p s m meth c bb L xs) (hZ : zE K V fz A s) (hA : ∀ q : Nat, s.heap.size ≤ q → A q) (hbA : ¬ A bb) (hbe : s.heap.size = b) (hK : va_K (dC, dI) vwCl [(cB, .byte), (cI, .int), (cJ, .long), (cZ, .boolean), (cS, .object "StreamQueries$Source"), (cO, .object "java/lang/Object")] s) {F i : Nat} {cs cs9 : CS} {rs rs9 : RS} {H : Heap} {locs : List Loc} {ls : Array Slot} (hi : i + 6 ≤ L) (hL : L ≤ 384) (hP : va_P (dC, dI) vwCl (cW cB cI cJ cZ cS cO b cs ++ mW cB cI cJ cZ h0 a rs) H) (hD : va_D A (cW cB cI cJ cZ cS cO b cs ++ mW cB cI cJ cZ h0 a rs)) (hS : va_S A s.heap H locs) (hz : H.size = b + kK cs) (hf : lk_5 F cs rs (xs (i + 1)) (xs (i + 2)) (xs (i + 3)) (xs (i + 4)) (xs (i + 5)) = some (cs9, rs9)) (hR1 : kK cs9 ≤ 600000) (hR2 : kM cs9 ≤ 7302250) (hl : lv_has ls 4 [(3, .int (nI i)), (2, .ref h0), (1, .ref (b + 0)), (0, .ref bb)]) (kk : ∀ (H1 : Heap) (locs1 : List Loc), va_P (dC, dI) vwCl (cW cB cI cJ cZ cS cO b cs9 ++ mW cB cI cJ cZ h0 a rs9) H1 → va_D A (cW cB cI cJ cZ cS cO b cs9 ++ mW cB cI cJ cZ h0 a rs9) → va_S A s.heap H1 locs1 → H1.size = b + kK cs9 → W p l e room_1 s m #[Value.ref bb] below meth c H1 locs1 (kK cs9) (kM cs9) (lw_Z below #[Value.ref bb] s) (F0 m 750 ls [])) : W p l e room_1 s m #[Value.ref bb] below meth c H locs (kK cs) (kM cs) (lw_Z below #[Value.ref bb] s) (F0 m 263 ls []) := by
  obtain ⟨hx, hb, hr, hml, hown, hts, hX, hbl, hlocks, hgv⟩ := id C0
  unfold lk_5 at hf
  obtain ⟨u0, e0, hf⟩ := ob hf
  obtain ⟨⟨cs1, r1⟩, e1, hf⟩ := ob hf
  obtain ⟨⟨rs1, r2⟩, e2, hf⟩ := ob hf
  have hf : (if r1 = r2 then some (cs1, rs1) else none) = some (cs9, rs9) := hf
  by_cases hq : r1 = r2
  case neg => rw [if_neg hq] at hf; cases hf
  rw [if_pos hq] at hf
  cases hf
  have hmo0 := mo_c_X11_value F cs 0 (((xs (i + 1)).toInt64 <<< ((32 : Int32).toInt64 &&& 63)) ||| ((xs (i + 2)).toInt64 &&& 4294967295)) cs1 r1 e1
  have hmo : kK cs1 = kK cs := congrArg Prod.fst hmo0
  have hmo2 : kM cs1 = kM cs := congrArg (fun z => z.2.1) hmo0
  have hcc : s.heap.size + kK cs = b + kK cs := by rw [hbe]
  refine lv_aload_n hx hb dL_law_263 rfl (lv_at hl 2 rfl) ?_
  refine lv_aload_n hx hb dL_law_264 rfl (lv_at hl 3 rfl) ?_
  refine lv_iload_n hx hb dL_law_265 rfl (lv_at hl 0 rfl) ?_
  refine lv_iconst (v := 1) hx hb dL_law_266 (by decide) ?_
  refine lv_iadd hx hb dL_law_267 ?_
  refine lv_topi (fun y_ ey_ => ?_)
  have ey_ : y_ = nI (i + 1) := ey_.trans (pk_add1 i 1)
  subst ey_
  refine va_sld hx hb hX hbl hbA hS (i := i + 1) (vp_in_nI (n := i + 1) (N := L) (by omega) (by omega)) dL_law_268 ?_
  refine lv_topi (fun y_ ey_ => ?_)
  have ey_ : y_ = xs (i + 1) := ey_.trans (congrArg xs (nI_clamp (n := i + 1) (by omega)))
  subst ey_
  refine lv_i2l hx hb dL_law_269 rfl ?_
  refine lv_bipush (v := 32) hx hb dL_law_270 (by decide) ?_
  refine lv_lshl (v := (((xs (i + 1)).toInt64) <<< ((32 : Int32).toInt64 &&& 63))) hx hb dL_law_272 rfl ?_
  refine lv_aload_n hx hb dL_law_273 rfl (lv_at hl 3 rfl) ?_
  refine lv_iload_n hx hb dL_law_274 rfl (lv_at hl 0 rfl) ?_
  refine lv_iconst (v := 2) hx hb dL_law_275 (by decide) ?_
  refine lv_iadd hx hb dL_law_276 ?_
  refine lv_topi (fun y_ ey_ => ?_)
  have ey_ : y_ = nI (i + 2) := ey_.trans (pk_add1 i 2)
  subst ey_
  refine va_sld hx hb hX hbl hbA hS (i := i + 2) (vp_in_nI (n := i + 2) (N := L) (by omega) (by omega)) dL_law_277 ?_
  refine lv_topi (fun y_ ey_ => ?_)
  have ey_ : y_ = xs (i + 2) := ey_.trans (congrArg xs (nI_clamp (n := i + 2) (by omega)))
  subst ey_
  refine lv_i2l hx hb dL_law_278 rfl ?_
  refine lv_ldc2 hx hb hown (hts _ (kG_in kw_2508)) dL_law_279 ?_
  refine lv_land hx hb dL_law_282 ?_
  refine lv_lor hx hb dL_law_283 ?_
  refine jbI (nL := 4) (As := [.long (((xs (i + 1)).toInt64 <<< ((32 : Int32).toInt64 &&& 63)) ||| ((xs (i + 2)).toInt64 &&& 4294967295))]) (rest := []) (X := 12) (i := 0) (wf := mW cB cI cJ cZ h0 a rs) hx hb hml hts hown hK hP hD hS hA hz hcc hZ (by decide) rfl (ckE_some e0) (sc_X11_value l dC dI cB cI cJ cZ cS cO b K V fz F cs 0 (((xs (i + 1)).toInt64 <<< ((32 : Int32).toInt64 &&& 63)) ||| ((xs (i + 2)).toInt64 &&& 4294967295)) cs1 r1 e1) (cwV 1 hts (gd_law (in_V kw_1566 kw_1567 kw_1568 kw_181 kc_X11_value)) rfl rfl rfl (by decide +kernel) ⟨Nat.le_of_ble_eq_true rfl, Nat.le_of_ble_eq_true rfl⟩) rfl hl.1 (Nat.le_of_ble_eq_true rfl) ⟨by show kK cs ≤ 600000; omega, by show kM cs ≤ 7302250; omega⟩ dL_law_284 (fun H1 locs1 hP1 hD1 hS1 hz1 => ?_)
  rw [← hmo] at hz1
  rw [← hmo, ← hmo2]
  refine lv_aload_n hx hb dL_law_287 rfl (lv_at hl 1 rfl) ?_
  refine lv_aload_n hx hb dL_law_288 rfl (lv_at hl 3 rfl) ?_
  refine lv_iload_n hx hb dL_law_289 rfl (lv_at hl 0 rfl) ?_
  refine lv_iconst (v := 1) hx hb dL_law_290 (by decide) ?_
  refine lv_iadd hx hb dL_law_291 ?_
  refine lv_topi (fun y_ ey_ => ?_)
  have ey_ : y_ = nI (i + 1) := ey_.trans (pk_add1 i 1)
  subst ey_
  refine va_sld hx hb hX hbl hbA hS1 (i := i + 1) (vp_in_nI (n := i + 1) (N := L) (by omega) (by omega)) dL_law_292 ?_
  refine lv_topi (fun y_ ey_ => ?_)
  have ey_ : y_ = xs (i + 1) := ey_.trans (congrArg xs (nI_clamp (n := i + 1) (by omega)))
  subst ey_
  refine lv_i2l hx hb dL_law_293 rfl ?_
  refine lv_bipush (v := 32) hx hb dL_law_294 (by decide) ?_
  refine lv_lshl (v := (((xs (i + 1)).toInt64) <<< ((32 : Int32).toInt64 &&& 63))) hx hb dL_law_296 rfl ?_
  refine lv_aload_n hx hb dL_law_297 rfl (lv_at hl 3 rfl) ?_
  refine lv_iload_n hx hb dL_law_298 rfl (lv_at hl 0 rfl) ?_
  refine lv_iconst (v := 2) hx hb dL_law_299 (by decide) ?_
  refine lv_iadd hx hb dL_law_300 ?_
  refine lv_topi (fun y_ ey_ => ?_)
  have ey_ : y_ = nI (i + 2) := ey_.trans (pk_add1 i 2)
  subst ey_
  refine va_sld hx hb hX hbl hbA hS1 (i := i + 2) (vp_in_nI (n := i + 2) (N := L) (by omega) (by omega)) dL_law_301 ?_
  refine lv_topi (fun y_ ey_ => ?_)
  have ey_ : y_ = xs (i + 2) := ey_.trans (congrArg xs (nI_clamp (n := i + 2) (by omega)))
  subst ey_
  refine lv_i2l hx hb dL_law_302 rfl ?_
  refine lv_ldc2 hx hb hown (hts _ (kG_in kw_2508)) dL_law_303 ?_
  refine lv_land hx hb dL_law_306 ?_
  refine lv_lor hx hb dL_law_307 ?_
  refine jmI (nL := 4) (As := [.long (((xs (i + 1)).toInt64 <<< ((32 : Int32).toInt64 &&& 63)) ||| ((xs (i + 2)).toInt64 &&& 4294967295))]) (rest := [.int r1]) (wf := cW cB cI cJ cZ cS cO b cs1) hx hb hml hts hown hK (va_P_sw hP1) (va_D_sw hD1) hS1 hA (by rw [hz1, hbe]) hZ (s_value l dC dI cB cI cJ cZ h0 a K V fz F rs (((xs (i + 1)).toInt64 <<< ((32 : Int32).toInt64 &&& 63)) ||| ((xs (i + 2)).toInt64 &&& 4294967295)) rs1 r2 e2) (cwV 1 hts (gd_law (in_V kw_2054 kw_2055 kw_2056 kw_191 kc_X12_value)) rfl rfl rfl (by decide +kernel) ⟨Nat.le_of_ble_eq_true rfl, Nat.le_of_ble_eq_true rfl⟩) rfl hl.1 (Nat.le_of_ble_eq_true rfl) ⟨hR1, hR2⟩ dL_law_308 (fun H2 locs2 hP2 hD2 hS2 hz2 => ?_)
  refine lv_icmp_eq (tgt := 750) hx hb dL_law_311 (by decide) (fun c_ => ?_) (fun c_ => ?_)
  · exact kk H2 locs2 (va_P_sw hP2) (va_D_sw hD2) hS2 (hz2.trans hz1)
  · exact absurd hq c_
set_option maxRecDepth 100000 in
theorem ls_6 {p : Program} {l : Launch} {e : Env} {s : State} {m : MethodId} {below : List Frame} {meth : Method} {c : Code} {dC : Nat → ClassId} {dI : Nat → Nat → Nat} {cB cI cJ cZ cS cO : ClassId} {bb L : Nat} {xs : Nat → Int32} {K V : Nat → Nat} {fz : Value} {A : Nat → Prop} {b h0 : Nat} {a : Nat → Nat} (C0 : lw_At p s m meth c bb L xs) (hZ : zE K V fz A s) (hA : ∀ q : Nat, s.heap.size ≤ q → A q) (hbA : ¬ A bb) (hbe : s.heap.size = b) (hK : va_K (dC, dI) vwCl [(cB, .byte), (cI, .int), (cJ, .long), (cZ, .boolean), (cS, .object "StreamQueries$Source"), (cO, .object "java/lang/Object")] s) {F i : Nat} {cs cs9 : CS} {rs rs9 : RS} {H : Heap} {locs : List Loc} {ls : Array Slot} (hi : i + 6 ≤ L) (hL : L ≤ 384) (hP : va_P (dC, dI) vwCl (cW cB cI cJ cZ cS cO b cs ++ mW cB cI cJ cZ h0 a rs) H) (hD : va_D A (cW cB cI cJ cZ cS cO b cs ++ mW cB cI cJ cZ h0 a rs)) (hS : va_S A s.heap H locs) (hz : H.size = b + kK cs) (hf : lk_6 F cs rs (xs (i + 1)) (xs (i + 2)) (xs (i + 3)) (xs (i + 4)) (xs (i + 5)) = some (cs9, rs9)) (hR1 : kK cs9 ≤ 600000) (hR2 : kM cs9 ≤ 7302250) (hl : lv_has ls 4 [(3, .int (nI i)), (2, .ref h0), (1, .ref (b + 0)), (0, .ref bb)]) (kk : ∀ (H1 : Heap) (locs1 : List Loc), va_P (dC, dI) vwCl (cW cB cI cJ cZ cS cO b cs9 ++ mW cB cI cJ cZ h0 a rs9) H1 → va_D A (cW cB cI cJ cZ cS cO b cs9 ++ mW cB cI cJ cZ h0 a rs9) → va_S A s.heap H1 locs1 → H1.size = b + kK cs9 → W p l e room_1 s m #[Value.ref bb] below meth c H1 locs1 (kK cs9) (kM cs9) (lw_Z below #[Value.ref bb] s) (F0 m 750 ls [])) : W p l e room_1 s m #[Value.ref bb] below meth c H locs (kK cs) (kM cs) (lw_Z below #[Value.ref bb] s) (F0 m 316 ls []) := by
  obtain ⟨hx, hb, hr, hml, hown, hts, hX, hbl, hlocks, hgv⟩ := id C0
  unfold lk_6 at hf
  obtain ⟨u0, e0, hf⟩ := ob hf
  obtain ⟨⟨cs1, r1⟩, e1, hf⟩ := ob hf
  obtain ⟨⟨rs1, r2⟩, e2, hf⟩ := ob hf
  have hf : (if r1 = r2 then some (cs1, rs1) else none) = some (cs9, rs9) := hf
  by_cases hq : r1 = r2
  case neg => rw [if_neg hq] at hf; cases hf
  rw [if_pos hq] at hf
  cases hf
  have hmo0 := mo_c_X11_nothing F cs 0  cs1 r1 e1
  have hmo : kK cs1 = kK cs := congrArg Prod.fst hmo0
  have hmo2 : kM cs1 = kM cs := congrArg (fun z => z.2.1) hmo0
  have hcc : s.heap.size + kK cs = b + kK cs := by rw [hbe]
  refine lv_aload_n hx hb dL_law_316 rfl (lv_at hl 2 rfl) ?_
  refine jbI (nL := 4) (As := []) (rest := []) (X := 12) (i := 0) (wf := mW cB cI cJ cZ h0 a rs) hx hb hml hts hown hK hP hD hS hA hz hcc hZ (by decide) rfl (ckE_some e0) (sc_X11_nothing l dC dI cB cI cJ cZ cS cO b K V fz F cs 0  cs1 r1 e1) (cwV 0 hts (gd_law (in_V kw_1574 kw_1575 kw_1576 kw_181 kc_X11_nothing)) rfl rfl rfl (by decide +kernel) ⟨Nat.le_of_ble_eq_true rfl, Nat.le_of_ble_eq_true rfl⟩) rfl hl.1 (Nat.le_of_ble_eq_true rfl) ⟨by show kK cs ≤ 600000; omega, by show kM cs ≤ 7302250; omega⟩ dL_law_317 (fun H1 locs1 hP1 hD1 hS1 hz1 => ?_)
  rw [← hmo] at hz1
  rw [← hmo, ← hmo2]
  refine lv_aload_n hx hb dL_law_320 rfl (lv_at hl 1 rfl) ?_
  refine jmI (nL := 4) (As := []) (rest := [.int r1]) (wf := cW cB cI cJ cZ cS cO b cs1) hx hb hml hts hown hK (va_P_sw hP1) (va_D_sw hD1) hS1 hA (by rw [hz1, hbe]) hZ (s_nothing l dC dI cB cI cJ cZ h0 a K V fz F rs  rs1 r2 e2) (cwV 0 hts (gd_law (in_V kw_2062 kw_2063 kw_2064 kw_191 kc_X12_nothing)) rfl rfl rfl (by decide +kernel) ⟨Nat.le_of_ble_eq_true rfl, Nat.le_of_ble_eq_true rfl⟩) rfl hl.1 (Nat.le_of_ble_eq_true rfl) ⟨hR1, hR2⟩ dL_law_321 (fun H2 locs2 hP2 hD2 hS2 hz2 => ?_)
  refine lv_icmp_eq (tgt := 750) hx hb dL_law_324 (by decide) (fun c_ => ?_) (fun c_ => ?_)
  · exact kk H2 locs2 (va_P_sw hP2) (va_D_sw hD2) hS2 (hz2.trans hz1)
  · exact absurd hq c_
set_option maxRecDepth 100000 in
theorem ls_7 {p : Program} {l : Launch} {e : Env} {s : State} {m : MethodId} {below : List Frame} {meth : Method} {c : Code} {dC : Nat → ClassId} {dI : Nat → Nat → Nat} {cB cI cJ cZ cS cO : ClassId} {bb L : Nat} {xs : Nat → Int32} {K V : Nat → Nat} {fz : Value} {A : Nat → Prop} {b h0 : Nat} {a : Nat → Nat} (C0 : lw_At p s m meth c bb L xs) (hZ : zE K V fz A s) (hA : ∀ q : Nat, s.heap.size ≤ q → A q) (hbA : ¬ A bb) (hbe : s.heap.size = b) (hK : va_K (dC, dI) vwCl [(cB, .byte), (cI, .int), (cJ, .long), (cZ, .boolean), (cS, .object "StreamQueries$Source"), (cO, .object "java/lang/Object")] s) {F i : Nat} {cs cs9 : CS} {rs rs9 : RS} {H : Heap} {locs : List Loc} {ls : Array Slot} (hi : i + 6 ≤ L) (hL : L ≤ 384) (hP : va_P (dC, dI) vwCl (cW cB cI cJ cZ cS cO b cs ++ mW cB cI cJ cZ h0 a rs) H) (hD : va_D A (cW cB cI cJ cZ cS cO b cs ++ mW cB cI cJ cZ h0 a rs)) (hS : va_S A s.heap H locs) (hz : H.size = b + kK cs) (hf : lk_7 F cs rs (xs (i + 1)) (xs (i + 2)) (xs (i + 3)) (xs (i + 4)) (xs (i + 5)) = some (cs9, rs9)) (hR1 : kK cs9 ≤ 600000) (hR2 : kM cs9 ≤ 7302250) (hl : lv_has ls 4 [(3, .int (nI i)), (2, .ref h0), (1, .ref (b + 0)), (0, .ref bb)]) (kk : ∀ (H1 : Heap) (locs1 : List Loc), va_P (dC, dI) vwCl (cW cB cI cJ cZ cS cO b cs9 ++ mW cB cI cJ cZ h0 a rs9) H1 → va_D A (cW cB cI cJ cZ cS cO b cs9 ++ mW cB cI cJ cZ h0 a rs9) → va_S A s.heap H1 locs1 → H1.size = b + kK cs9 → W p l e room_1 s m #[Value.ref bb] below meth c H1 locs1 (kK cs9) (kM cs9) (lw_Z below #[Value.ref bb] s) (F0 m 750 ls [])) : W p l e room_1 s m #[Value.ref bb] below meth c H locs (kK cs) (kM cs) (lw_Z below #[Value.ref bb] s) (F0 m 329 ls []) := by
  obtain ⟨hx, hb, hr, hml, hown, hts, hX, hbl, hlocks, hgv⟩ := id C0
  unfold lk_7 at hf
  obtain ⟨u0, e0, hf⟩ := ob hf
  obtain ⟨⟨cs1, r1⟩, e1, hf⟩ := ob hf
  obtain ⟨⟨rs1, r2⟩, e2, hf⟩ := ob hf
  have hf : (if r1 = r2 then some (cs1, rs1) else none) = some (cs9, rs9) := hf
  by_cases hq : r1 = r2
  case neg => rw [if_neg hq] at hf; cases hf
  rw [if_pos hq] at hf
  cases hf
  have hmo := mo_c_X11_row F cs 0 (xs (i + 1)) (((xs (i + 2)).toInt64 <<< ((32 : Int32).toInt64 &&& 63)) ||| ((xs (i + 3)).toInt64 &&& 4294967295)) cs1 r1 e1
  have hcc : s.heap.size + kK cs = b + kK cs := by rw [hbe]
  refine lv_aload_n hx hb dL_law_329 rfl (lv_at hl 2 rfl) ?_
  refine lv_aload_n hx hb dL_law_330 rfl (lv_at hl 3 rfl) ?_
  refine lv_iload_n hx hb dL_law_331 rfl (lv_at hl 0 rfl) ?_
  refine lv_iconst (v := 1) hx hb dL_law_332 (by decide) ?_
  refine lv_iadd hx hb dL_law_333 ?_
  refine lv_topi (fun y_ ey_ => ?_)
  have ey_ : y_ = nI (i + 1) := ey_.trans (pk_add1 i 1)
  subst ey_
  refine va_sld hx hb hX hbl hbA hS (i := i + 1) (vp_in_nI (n := i + 1) (N := L) (by omega) (by omega)) dL_law_334 ?_
  refine lv_topi (fun y_ ey_ => ?_)
  have ey_ : y_ = xs (i + 1) := ey_.trans (congrArg xs (nI_clamp (n := i + 1) (by omega)))
  subst ey_
  refine lv_aload_n hx hb dL_law_335 rfl (lv_at hl 3 rfl) ?_
  refine lv_iload_n hx hb dL_law_336 rfl (lv_at hl 0 rfl) ?_
  refine lv_iconst (v := 2) hx hb dL_law_337 (by decide) ?_
  refine lv_iadd hx hb dL_law_338 ?_
  refine lv_topi (fun y_ ey_ => ?_)
  have ey_ : y_ = nI (i + 2) := ey_.trans (pk_add1 i 2)
  subst ey_
  refine va_sld hx hb hX hbl hbA hS (i := i + 2) (vp_in_nI (n := i + 2) (N := L) (by omega) (by omega)) dL_law_339 ?_
  refine lv_topi (fun y_ ey_ => ?_)
  have ey_ : y_ = xs (i + 2) := ey_.trans (congrArg xs (nI_clamp (n := i + 2) (by omega)))
  subst ey_
  refine lv_i2l hx hb dL_law_340 rfl ?_
  refine lv_bipush (v := 32) hx hb dL_law_341 (by decide) ?_
  refine lv_lshl (v := (((xs (i + 2)).toInt64) <<< ((32 : Int32).toInt64 &&& 63))) hx hb dL_law_343 rfl ?_
  refine lv_aload_n hx hb dL_law_344 rfl (lv_at hl 3 rfl) ?_
  refine lv_iload_n hx hb dL_law_345 rfl (lv_at hl 0 rfl) ?_
  refine lv_iconst (v := 3) hx hb dL_law_346 (by decide) ?_
  refine lv_iadd hx hb dL_law_347 ?_
  refine lv_topi (fun y_ ey_ => ?_)
  have ey_ : y_ = nI (i + 3) := ey_.trans (pk_add1 i 3)
  subst ey_
  refine va_sld hx hb hX hbl hbA hS (i := i + 3) (vp_in_nI (n := i + 3) (N := L) (by omega) (by omega)) dL_law_348 ?_
  refine lv_topi (fun y_ ey_ => ?_)
  have ey_ : y_ = xs (i + 3) := ey_.trans (congrArg xs (nI_clamp (n := i + 3) (by omega)))
  subst ey_
  refine lv_i2l hx hb dL_law_349 rfl ?_
  refine lv_ldc2 hx hb hown (hts _ (kG_in kw_2508)) dL_law_350 ?_
  refine lv_land hx hb dL_law_353 ?_
  refine lv_lor hx hb dL_law_354 ?_
  refine jaI (nL := 4) (As := [.int (xs (i + 1)), .long (((xs (i + 2)).toInt64 <<< ((32 : Int32).toInt64 &&& 63)) ||| ((xs (i + 3)).toInt64 &&& 4294967295))]) (rest := []) (X := 12) (i := 0) (wf := mW cB cI cJ cZ h0 a rs) hx hb hml hts hown hK hP hD hS hA hz hcc hZ (by decide) rfl (ckE_some e0) (sa_X11_row l dC dI cB cI cJ cZ cS cO b K V fz F cs 0 (xs (i + 1)) (((xs (i + 2)).toInt64 <<< ((32 : Int32).toInt64 &&& 63)) ||| ((xs (i + 3)).toInt64 &&& 4294967295)) cs1 r1 e1) (cwV 2 hts (gd_law (in_V kw_1578 kw_1579 kw_1580 kw_181 kc_X11_row)) rfl rfl rfl (by decide +kernel) ⟨Nat.le_of_ble_eq_true rfl, Nat.le_of_ble_eq_true rfl⟩) rfl hl.1 (Nat.le_of_ble_eq_true rfl) ⟨by show kK cs + (kK cs1 - kK cs) ≤ 600000; omega, by show kM cs + (kM cs1 - kM cs) ≤ 7302250; omega⟩ dL_law_355 (fun H1 locs1 hP1 hD1 hS1 hz1 => ?_)
  rw [show kK cs + (kK cs1 - kK cs) = kK cs1 by omega, show kM cs + (kM cs1 - kM cs) = kM cs1 by omega]
  refine lv_aload_n hx hb dL_law_358 rfl (lv_at hl 1 rfl) ?_
  refine lv_aload_n hx hb dL_law_359 rfl (lv_at hl 3 rfl) ?_
  refine lv_iload_n hx hb dL_law_360 rfl (lv_at hl 0 rfl) ?_
  refine lv_iconst (v := 1) hx hb dL_law_361 (by decide) ?_
  refine lv_iadd hx hb dL_law_362 ?_
  refine lv_topi (fun y_ ey_ => ?_)
  have ey_ : y_ = nI (i + 1) := ey_.trans (pk_add1 i 1)
  subst ey_
  refine va_sld hx hb hX hbl hbA hS1 (i := i + 1) (vp_in_nI (n := i + 1) (N := L) (by omega) (by omega)) dL_law_363 ?_
  refine lv_topi (fun y_ ey_ => ?_)
  have ey_ : y_ = xs (i + 1) := ey_.trans (congrArg xs (nI_clamp (n := i + 1) (by omega)))
  subst ey_
  refine lv_aload_n hx hb dL_law_364 rfl (lv_at hl 3 rfl) ?_
  refine lv_iload_n hx hb dL_law_365 rfl (lv_at hl 0 rfl) ?_
  refine lv_iconst (v := 2) hx hb dL_law_366 (by decide) ?_
  refine lv_iadd hx hb dL_law_367 ?_
  refine lv_topi (fun y_ ey_ => ?_)
  have ey_ : y_ = nI (i + 2) := ey_.trans (pk_add1 i 2)
  subst ey_
  refine va_sld hx hb hX hbl hbA hS1 (i := i + 2) (vp_in_nI (n := i + 2) (N := L) (by omega) (by omega)) dL_law_368 ?_
  refine lv_topi (fun y_ ey_ => ?_)
  have ey_ : y_ = xs (i + 2) := ey_.trans (congrArg xs (nI_clamp (n := i + 2) (by omega)))
  subst ey_
  refine lv_i2l hx hb dL_law_369 rfl ?_
  refine lv_bipush (v := 32) hx hb dL_law_370 (by decide) ?_
  refine lv_lshl (v := (((xs (i + 2)).toInt64) <<< ((32 : Int32).toInt64 &&& 63))) hx hb dL_law_372 rfl ?_
  refine lv_aload_n hx hb dL_law_373 rfl (lv_at hl 3 rfl) ?_
  refine lv_iload_n hx hb dL_law_374 rfl (lv_at hl 0 rfl) ?_
  refine lv_iconst (v := 3) hx hb dL_law_375 (by decide) ?_
  refine lv_iadd hx hb dL_law_376 ?_
  refine lv_topi (fun y_ ey_ => ?_)
  have ey_ : y_ = nI (i + 3) := ey_.trans (pk_add1 i 3)
  subst ey_
  refine va_sld hx hb hX hbl hbA hS1 (i := i + 3) (vp_in_nI (n := i + 3) (N := L) (by omega) (by omega)) dL_law_377 ?_
  refine lv_topi (fun y_ ey_ => ?_)
  have ey_ : y_ = xs (i + 3) := ey_.trans (congrArg xs (nI_clamp (n := i + 3) (by omega)))
  subst ey_
  refine lv_i2l hx hb dL_law_378 rfl ?_
  refine lv_ldc2 hx hb hown (hts _ (kG_in kw_2508)) dL_law_379 ?_
  refine lv_land hx hb dL_law_382 ?_
  refine lv_lor hx hb dL_law_383 ?_
  refine jmI (nL := 4) (As := [.int (xs (i + 1)), .long (((xs (i + 2)).toInt64 <<< ((32 : Int32).toInt64 &&& 63)) ||| ((xs (i + 3)).toInt64 &&& 4294967295))]) (rest := [.int r1]) (wf := cW cB cI cJ cZ cS cO b cs1) hx hb hml hts hown hK (va_P_sw hP1) (va_D_sw hD1) hS1 hA (by rw [hz1, hbe]) hZ (s_row l dC dI cB cI cJ cZ h0 a K V fz F rs (xs (i + 1)) (((xs (i + 2)).toInt64 <<< ((32 : Int32).toInt64 &&& 63)) ||| ((xs (i + 3)).toInt64 &&& 4294967295)) rs1 r2 e2) (cwV 2 hts (gd_law (in_V kw_2066 kw_2067 kw_2068 kw_191 kc_X12_row)) rfl rfl rfl (by decide +kernel) ⟨Nat.le_of_ble_eq_true rfl, Nat.le_of_ble_eq_true rfl⟩) rfl hl.1 (Nat.le_of_ble_eq_true rfl) ⟨hR1, hR2⟩ dL_law_384 (fun H2 locs2 hP2 hD2 hS2 hz2 => ?_)
  refine lv_icmp_eq (tgt := 750) hx hb dL_law_387 (by decide) (fun c_ => ?_) (fun c_ => ?_)
  · exact kk H2 locs2 (va_P_sw hP2) (va_D_sw hD2) hS2 (hz2.trans hz1)
  · exact absurd hq c_
set_option maxRecDepth 100000 in
theorem ls_8 {p : Program} {l : Launch} {e : Env} {s : State} {m : MethodId} {below : List Frame} {meth : Method} {c : Code} {dC : Nat → ClassId} {dI : Nat → Nat → Nat} {cB cI cJ cZ cS cO : ClassId} {bb L : Nat} {xs : Nat → Int32} {K V : Nat → Nat} {fz : Value} {A : Nat → Prop} {b h0 : Nat} {a : Nat → Nat} (C0 : lw_At p s m meth c bb L xs) (hZ : zE K V fz A s) (hA : ∀ q : Nat, s.heap.size ≤ q → A q) (hbA : ¬ A bb) (hbe : s.heap.size = b) (hK : va_K (dC, dI) vwCl [(cB, .byte), (cI, .int), (cJ, .long), (cZ, .boolean), (cS, .object "StreamQueries$Source"), (cO, .object "java/lang/Object")] s) {F i : Nat} {cs cs9 : CS} {rs rs9 : RS} {H : Heap} {locs : List Loc} {ls : Array Slot} (hi : i + 6 ≤ L) (hL : L ≤ 384) (hP : va_P (dC, dI) vwCl (cW cB cI cJ cZ cS cO b cs ++ mW cB cI cJ cZ h0 a rs) H) (hD : va_D A (cW cB cI cJ cZ cS cO b cs ++ mW cB cI cJ cZ h0 a rs)) (hS : va_S A s.heap H locs) (hz : H.size = b + kK cs) (hf : lk_8 F cs rs (xs (i + 1)) (xs (i + 2)) (xs (i + 3)) (xs (i + 4)) (xs (i + 5)) = some (cs9, rs9)) (hR1 : kK cs9 ≤ 600000) (hR2 : kM cs9 ≤ 7302250) (hl : lv_has ls 4 [(3, .int (nI i)), (2, .ref h0), (1, .ref (b + 0)), (0, .ref bb)]) (kk : ∀ (H1 : Heap) (locs1 : List Loc), va_P (dC, dI) vwCl (cW cB cI cJ cZ cS cO b cs9 ++ mW cB cI cJ cZ h0 a rs9) H1 → va_D A (cW cB cI cJ cZ cS cO b cs9 ++ mW cB cI cJ cZ h0 a rs9) → va_S A s.heap H1 locs1 → H1.size = b + kK cs9 → W p l e room_1 s m #[Value.ref bb] below meth c H1 locs1 (kK cs9) (kM cs9) (lw_Z below #[Value.ref bb] s) (F0 m 750 ls [])) : W p l e room_1 s m #[Value.ref bb] below meth c H locs (kK cs) (kM cs) (lw_Z below #[Value.ref bb] s) (F0 m 392 ls []) := by
  obtain ⟨hx, hb, hr, hml, hown, hts, hX, hbl, hlocks, hgv⟩ := id C0
  unfold lk_8 at hf
  obtain ⟨u0, e0, hf⟩ := ob hf
  obtain ⟨⟨cs1, r1⟩, e1, hf⟩ := ob hf
  obtain ⟨⟨rs1, r2⟩, e2, hf⟩ := ob hf
  have hf : (if r1 = r2 then some (cs1, rs1) else none) = some (cs9, rs9) := hf
  by_cases hq : r1 = r2
  case neg => rw [if_neg hq] at hf; cases hf
  rw [if_pos hq] at hf
  cases hf
  have hmo := mo_c_X11_back F cs 0 (xs (i + 1)) (xs (i + 2)) cs1 r1 e1
  have hcc : s.heap.size + kK cs = b + kK cs := by rw [hbe]
  refine lv_aload_n hx hb dL_law_392 rfl (lv_at hl 2 rfl) ?_
  refine lv_aload_n hx hb dL_law_393 rfl (lv_at hl 3 rfl) ?_
  refine lv_iload_n hx hb dL_law_394 rfl (lv_at hl 0 rfl) ?_
  refine lv_iconst (v := 1) hx hb dL_law_395 (by decide) ?_
  refine lv_iadd hx hb dL_law_396 ?_
  refine lv_topi (fun y_ ey_ => ?_)
  have ey_ : y_ = nI (i + 1) := ey_.trans (pk_add1 i 1)
  subst ey_
  refine va_sld hx hb hX hbl hbA hS (i := i + 1) (vp_in_nI (n := i + 1) (N := L) (by omega) (by omega)) dL_law_397 ?_
  refine lv_topi (fun y_ ey_ => ?_)
  have ey_ : y_ = xs (i + 1) := ey_.trans (congrArg xs (nI_clamp (n := i + 1) (by omega)))
  subst ey_
  refine lv_aload_n hx hb dL_law_398 rfl (lv_at hl 3 rfl) ?_
  refine lv_iload_n hx hb dL_law_399 rfl (lv_at hl 0 rfl) ?_
  refine lv_iconst (v := 2) hx hb dL_law_400 (by decide) ?_
  refine lv_iadd hx hb dL_law_401 ?_
  refine lv_topi (fun y_ ey_ => ?_)
  have ey_ : y_ = nI (i + 2) := ey_.trans (pk_add1 i 2)
  subst ey_
  refine va_sld hx hb hX hbl hbA hS (i := i + 2) (vp_in_nI (n := i + 2) (N := L) (by omega) (by omega)) dL_law_402 ?_
  refine lv_topi (fun y_ ey_ => ?_)
  have ey_ : y_ = xs (i + 2) := ey_.trans (congrArg xs (nI_clamp (n := i + 2) (by omega)))
  subst ey_
  refine jaI (nL := 4) (As := [.int (xs (i + 1)), .int (xs (i + 2))]) (rest := []) (X := 12) (i := 0) (wf := mW cB cI cJ cZ h0 a rs) hx hb hml hts hown hK hP hD hS hA hz hcc hZ (by decide) rfl (ckE_some e0) (sa_X11_back l dC dI cB cI cJ cZ cS cO b K V fz F cs 0 (xs (i + 1)) (xs (i + 2)) cs1 r1 e1) (cwV 2 hts (gd_law (in_V kw_1596 kw_1597 kw_1598 kw_181 kc_X11_back)) rfl rfl rfl (by decide +kernel) ⟨Nat.le_of_ble_eq_true rfl, Nat.le_of_ble_eq_true rfl⟩) rfl hl.1 (Nat.le_of_ble_eq_true rfl) ⟨by show kK cs + (kK cs1 - kK cs) ≤ 600000; omega, by show kM cs + (kM cs1 - kM cs) ≤ 7302250; omega⟩ dL_law_403 (fun H1 locs1 hP1 hD1 hS1 hz1 => ?_)
  rw [show kK cs + (kK cs1 - kK cs) = kK cs1 by omega, show kM cs + (kM cs1 - kM cs) = kM cs1 by omega]
  refine lv_aload_n hx hb dL_law_406 rfl (lv_at hl 1 rfl) ?_
  refine lv_aload_n hx hb dL_law_407 rfl (lv_at hl 3 rfl) ?_
  refine lv_iload_n hx hb dL_law_408 rfl (lv_at hl 0 rfl) ?_
  refine lv_iconst (v := 1) hx hb dL_law_409 (by decide) ?_
  refine lv_iadd hx hb dL_law_410 ?_
  refine lv_topi (fun y_ ey_ => ?_)
  have ey_ : y_ = nI (i + 1) := ey_.trans (pk_add1 i 1)
  subst ey_
  refine va_sld hx hb hX hbl hbA hS1 (i := i + 1) (vp_in_nI (n := i + 1) (N := L) (by omega) (by omega)) dL_law_411 ?_
  refine lv_topi (fun y_ ey_ => ?_)
  have ey_ : y_ = xs (i + 1) := ey_.trans (congrArg xs (nI_clamp (n := i + 1) (by omega)))
  subst ey_
  refine lv_aload_n hx hb dL_law_412 rfl (lv_at hl 3 rfl) ?_
  refine lv_iload_n hx hb dL_law_413 rfl (lv_at hl 0 rfl) ?_
  refine lv_iconst (v := 2) hx hb dL_law_414 (by decide) ?_
  refine lv_iadd hx hb dL_law_415 ?_
  refine lv_topi (fun y_ ey_ => ?_)
  have ey_ : y_ = nI (i + 2) := ey_.trans (pk_add1 i 2)
  subst ey_
  refine va_sld hx hb hX hbl hbA hS1 (i := i + 2) (vp_in_nI (n := i + 2) (N := L) (by omega) (by omega)) dL_law_416 ?_
  refine lv_topi (fun y_ ey_ => ?_)
  have ey_ : y_ = xs (i + 2) := ey_.trans (congrArg xs (nI_clamp (n := i + 2) (by omega)))
  subst ey_
  refine jmI (nL := 4) (As := [.int (xs (i + 1)), .int (xs (i + 2))]) (rest := [.int r1]) (wf := cW cB cI cJ cZ cS cO b cs1) hx hb hml hts hown hK (va_P_sw hP1) (va_D_sw hD1) hS1 hA (by rw [hz1, hbe]) hZ (s_back l dC dI cB cI cJ cZ h0 a K V fz F rs (xs (i + 1)) (xs (i + 2)) rs1 r2 e2) (cwV 2 hts (gd_law (in_V kw_2209 kw_2210 kw_2211 kw_191 kc_X12_back)) rfl rfl rfl (by decide +kernel) ⟨Nat.le_of_ble_eq_true rfl, Nat.le_of_ble_eq_true rfl⟩) rfl hl.1 (Nat.le_of_ble_eq_true rfl) ⟨hR1, hR2⟩ dL_law_417 (fun H2 locs2 hP2 hD2 hS2 hz2 => ?_)
  refine lv_icmp_eq (tgt := 750) hx hb dL_law_420 (by decide) (fun c_ => ?_) (fun c_ => ?_)
  · exact kk H2 locs2 (va_P_sw hP2) (va_D_sw hD2) hS2 (hz2.trans hz1)
  · exact absurd hq c_
set_option maxRecDepth 100000 in
theorem ls_9 {p : Program} {l : Launch} {e : Env} {s : State} {m : MethodId} {below : List Frame} {meth : Method} {c : Code} {dC : Nat → ClassId} {dI : Nat → Nat → Nat} {cB cI cJ cZ cS cO : ClassId} {bb L : Nat} {xs : Nat → Int32} {K V : Nat → Nat} {fz : Value} {A : Nat → Prop} {b h0 : Nat} {a : Nat → Nat} (C0 : lw_At p s m meth c bb L xs) (hZ : zE K V fz A s) (hA : ∀ q : Nat, s.heap.size ≤ q → A q) (hbA : ¬ A bb) (hbe : s.heap.size = b) (hK : va_K (dC, dI) vwCl [(cB, .byte), (cI, .int), (cJ, .long), (cZ, .boolean), (cS, .object "StreamQueries$Source"), (cO, .object "java/lang/Object")] s) {F i : Nat} {cs cs9 : CS} {rs rs9 : RS} {H : Heap} {locs : List Loc} {ls : Array Slot} (hi : i + 6 ≤ L) (hL : L ≤ 384) (hP : va_P (dC, dI) vwCl (cW cB cI cJ cZ cS cO b cs ++ mW cB cI cJ cZ h0 a rs) H) (hD : va_D A (cW cB cI cJ cZ cS cO b cs ++ mW cB cI cJ cZ h0 a rs)) (hS : va_S A s.heap H locs) (hz : H.size = b + kK cs) (hf : lk_9 F cs rs (xs (i + 1)) (xs (i + 2)) (xs (i + 3)) (xs (i + 4)) (xs (i + 5)) = some (cs9, rs9)) (hR1 : kK cs9 ≤ 600000) (hR2 : kM cs9 ≤ 7302250) (hl : lv_has ls 4 [(3, .int (nI i)), (2, .ref h0), (1, .ref (b + 0)), (0, .ref bb)]) (kk : ∀ (H1 : Heap) (locs1 : List Loc), va_P (dC, dI) vwCl (cW cB cI cJ cZ cS cO b cs9 ++ mW cB cI cJ cZ h0 a rs9) H1 → va_D A (cW cB cI cJ cZ cS cO b cs9 ++ mW cB cI cJ cZ h0 a rs9) → va_S A s.heap H1 locs1 → H1.size = b + kK cs9 → W p l e room_1 s m #[Value.ref bb] below meth c H1 locs1 (kK cs9) (kM cs9) (lw_Z below #[Value.ref bb] s) (F0 m 750 ls [])) : W p l e room_1 s m #[Value.ref bb] below meth c H locs (kK cs) (kM cs) (lw_Z below #[Value.ref bb] s) (F0 m 425 ls []) := by
  obtain ⟨hx, hb, hr, hml, hown, hts, hX, hbl, hlocks, hgv⟩ := id C0
  unfold lk_9 at hf
  obtain ⟨u0, e0, hf⟩ := ob hf
  obtain ⟨⟨cs1, r1⟩, e1, hf⟩ := ob hf
  obtain ⟨⟨rs1, r2⟩, e2, hf⟩ := ob hf
  have hf : (if r1 = r2 then some (cs1, rs1) else none) = some (cs9, rs9) := hf
  by_cases hq : r1 = r2
  case neg => rw [if_neg hq] at hf; cases hf
  rw [if_pos hq] at hf
  cases hf
  have hmo := mo_c_X11_watermark F cs 0 (((xs (i + 1)).toInt64 <<< ((32 : Int32).toInt64 &&& 63)) ||| ((xs (i + 2)).toInt64 &&& 4294967295)) cs1 r1 e1
  have hcc : s.heap.size + kK cs = b + kK cs := by rw [hbe]
  refine lv_aload_n hx hb dL_law_425 rfl (lv_at hl 2 rfl) ?_
  refine lv_aload_n hx hb dL_law_426 rfl (lv_at hl 3 rfl) ?_
  refine lv_iload_n hx hb dL_law_427 rfl (lv_at hl 0 rfl) ?_
  refine lv_iconst (v := 1) hx hb dL_law_428 (by decide) ?_
  refine lv_iadd hx hb dL_law_429 ?_
  refine lv_topi (fun y_ ey_ => ?_)
  have ey_ : y_ = nI (i + 1) := ey_.trans (pk_add1 i 1)
  subst ey_
  refine va_sld hx hb hX hbl hbA hS (i := i + 1) (vp_in_nI (n := i + 1) (N := L) (by omega) (by omega)) dL_law_430 ?_
  refine lv_topi (fun y_ ey_ => ?_)
  have ey_ : y_ = xs (i + 1) := ey_.trans (congrArg xs (nI_clamp (n := i + 1) (by omega)))
  subst ey_
  refine lv_i2l hx hb dL_law_431 rfl ?_
  refine lv_bipush (v := 32) hx hb dL_law_432 (by decide) ?_
  refine lv_lshl (v := (((xs (i + 1)).toInt64) <<< ((32 : Int32).toInt64 &&& 63))) hx hb dL_law_434 rfl ?_
  refine lv_aload_n hx hb dL_law_435 rfl (lv_at hl 3 rfl) ?_
  refine lv_iload_n hx hb dL_law_436 rfl (lv_at hl 0 rfl) ?_
  refine lv_iconst (v := 2) hx hb dL_law_437 (by decide) ?_
  refine lv_iadd hx hb dL_law_438 ?_
  refine lv_topi (fun y_ ey_ => ?_)
  have ey_ : y_ = nI (i + 2) := ey_.trans (pk_add1 i 2)
  subst ey_
  refine va_sld hx hb hX hbl hbA hS (i := i + 2) (vp_in_nI (n := i + 2) (N := L) (by omega) (by omega)) dL_law_439 ?_
  refine lv_topi (fun y_ ey_ => ?_)
  have ey_ : y_ = xs (i + 2) := ey_.trans (congrArg xs (nI_clamp (n := i + 2) (by omega)))
  subst ey_
  refine lv_i2l hx hb dL_law_440 rfl ?_
  refine lv_ldc2 hx hb hown (hts _ (kG_in kw_2508)) dL_law_441 ?_
  refine lv_land hx hb dL_law_444 ?_
  refine lv_lor hx hb dL_law_445 ?_
  refine jaI (nL := 4) (As := [.long (((xs (i + 1)).toInt64 <<< ((32 : Int32).toInt64 &&& 63)) ||| ((xs (i + 2)).toInt64 &&& 4294967295))]) (rest := []) (X := 12) (i := 0) (wf := mW cB cI cJ cZ h0 a rs) hx hb hml hts hown hK hP hD hS hA hz hcc hZ (by decide) rfl (ckE_some e0) (sa_X11_watermark l dC dI cB cI cJ cZ cS cO b K V fz F cs 0 (((xs (i + 1)).toInt64 <<< ((32 : Int32).toInt64 &&& 63)) ||| ((xs (i + 2)).toInt64 &&& 4294967295)) cs1 r1 e1) (cwV 1 hts (gd_law (in_V kw_1604 kw_1605 kw_1606 kw_181 kc_X11_watermark)) rfl rfl rfl (by decide +kernel) ⟨Nat.le_of_ble_eq_true rfl, Nat.le_of_ble_eq_true rfl⟩) rfl hl.1 (Nat.le_of_ble_eq_true rfl) ⟨by show kK cs + (kK cs1 - kK cs) ≤ 600000; omega, by show kM cs + (kM cs1 - kM cs) ≤ 7302250; omega⟩ dL_law_446 (fun H1 locs1 hP1 hD1 hS1 hz1 => ?_)
  rw [show kK cs + (kK cs1 - kK cs) = kK cs1 by omega, show kM cs + (kM cs1 - kM cs) = kM cs1 by omega]
  refine lv_aload_n hx hb dL_law_449 rfl (lv_at hl 1 rfl) ?_
  refine lv_aload_n hx hb dL_law_450 rfl (lv_at hl 3 rfl) ?_
  refine lv_iload_n hx hb dL_law_451 rfl (lv_at hl 0 rfl) ?_
  refine lv_iconst (v := 1) hx hb dL_law_452 (by decide) ?_
  refine lv_iadd hx hb dL_law_453 ?_
  refine lv_topi (fun y_ ey_ => ?_)
  have ey_ : y_ = nI (i + 1) := ey_.trans (pk_add1 i 1)
  subst ey_
  refine va_sld hx hb hX hbl hbA hS1 (i := i + 1) (vp_in_nI (n := i + 1) (N := L) (by omega) (by omega)) dL_law_454 ?_
  refine lv_topi (fun y_ ey_ => ?_)
  have ey_ : y_ = xs (i + 1) := ey_.trans (congrArg xs (nI_clamp (n := i + 1) (by omega)))
  subst ey_
  refine lv_i2l hx hb dL_law_455 rfl ?_
  refine lv_bipush (v := 32) hx hb dL_law_456 (by decide) ?_
  refine lv_lshl (v := (((xs (i + 1)).toInt64) <<< ((32 : Int32).toInt64 &&& 63))) hx hb dL_law_458 rfl ?_
  refine lv_aload_n hx hb dL_law_459 rfl (lv_at hl 3 rfl) ?_
  refine lv_iload_n hx hb dL_law_460 rfl (lv_at hl 0 rfl) ?_
  refine lv_iconst (v := 2) hx hb dL_law_461 (by decide) ?_
  refine lv_iadd hx hb dL_law_462 ?_
  refine lv_topi (fun y_ ey_ => ?_)
  have ey_ : y_ = nI (i + 2) := ey_.trans (pk_add1 i 2)
  subst ey_
  refine va_sld hx hb hX hbl hbA hS1 (i := i + 2) (vp_in_nI (n := i + 2) (N := L) (by omega) (by omega)) dL_law_463 ?_
  refine lv_topi (fun y_ ey_ => ?_)
  have ey_ : y_ = xs (i + 2) := ey_.trans (congrArg xs (nI_clamp (n := i + 2) (by omega)))
  subst ey_
  refine lv_i2l hx hb dL_law_464 rfl ?_
  refine lv_ldc2 hx hb hown (hts _ (kG_in kw_2508)) dL_law_465 ?_
  refine lv_land hx hb dL_law_468 ?_
  refine lv_lor hx hb dL_law_469 ?_
  refine jmI (nL := 4) (As := [.long (((xs (i + 1)).toInt64 <<< ((32 : Int32).toInt64 &&& 63)) ||| ((xs (i + 2)).toInt64 &&& 4294967295))]) (rest := [.int r1]) (wf := cW cB cI cJ cZ cS cO b cs1) hx hb hml hts hown hK (va_P_sw hP1) (va_D_sw hD1) hS1 hA (by rw [hz1, hbe]) hZ (s_watermark l dC dI cB cI cJ cZ h0 a K V fz F rs (((xs (i + 1)).toInt64 <<< ((32 : Int32).toInt64 &&& 63)) ||| ((xs (i + 2)).toInt64 &&& 4294967295)) rs1 r2 e2) (cwV 1 hts (gd_law (in_V kw_2213 kw_2214 kw_2215 kw_191 kc_X12_watermark)) rfl rfl rfl (by decide +kernel) ⟨Nat.le_of_ble_eq_true rfl, Nat.le_of_ble_eq_true rfl⟩) rfl hl.1 (Nat.le_of_ble_eq_true rfl) ⟨hR1, hR2⟩ dL_law_470 (fun H2 locs2 hP2 hD2 hS2 hz2 => ?_)
  refine lv_icmp_eq (tgt := 750) hx hb dL_law_473 (by decide) (fun c_ => ?_) (fun c_ => ?_)
  · exact kk H2 locs2 (va_P_sw hP2) (va_D_sw hD2) hS2 (hz2.trans hz1)
  · exact absurd hq c_
set_option maxRecDepth 100000 in
theorem ls_10 {p : Program} {l : Launch} {e : Env} {s : State} {m : MethodId} {below : List Frame} {meth : Method} {c : Code} {dC : Nat → ClassId} {dI : Nat → Nat → Nat} {cB cI cJ cZ cS cO : ClassId} {bb L : Nat} {xs : Nat → Int32} {K V : Nat → Nat} {fz : Value} {A : Nat → Prop} {b h0 : Nat} {a : Nat → Nat} (C0 : lw_At p s m meth c bb L xs) (hZ : zE K V fz A s) (hA : ∀ q : Nat, s.heap.size ≤ q → A q) (hbA : ¬ A bb) (hbe : s.heap.size = b) (hK : va_K (dC, dI) vwCl [(cB, .byte), (cI, .int), (cJ, .long), (cZ, .boolean), (cS, .object "StreamQueries$Source"), (cO, .object "java/lang/Object")] s) {F i : Nat} {cs cs9 : CS} {rs rs9 : RS} {H : Heap} {locs : List Loc} {ls : Array Slot} (hi : i + 6 ≤ L) (hL : L ≤ 384) (hP : va_P (dC, dI) vwCl (cW cB cI cJ cZ cS cO b cs ++ mW cB cI cJ cZ h0 a rs) H) (hD : va_D A (cW cB cI cJ cZ cS cO b cs ++ mW cB cI cJ cZ h0 a rs)) (hS : va_S A s.heap H locs) (hz : H.size = b + kK cs) (hf : lk_10 F cs rs (xs (i + 1)) (xs (i + 2)) (xs (i + 3)) (xs (i + 4)) (xs (i + 5)) = some (cs9, rs9)) (hR1 : kK cs9 ≤ 600000) (hR2 : kM cs9 ≤ 7302250) (hl : lv_has ls 4 [(3, .int (nI i)), (2, .ref h0), (1, .ref (b + 0)), (0, .ref bb)]) (kk : ∀ (H1 : Heap) (locs1 : List Loc), va_P (dC, dI) vwCl (cW cB cI cJ cZ cS cO b cs9 ++ mW cB cI cJ cZ h0 a rs9) H1 → va_D A (cW cB cI cJ cZ cS cO b cs9 ++ mW cB cI cJ cZ h0 a rs9) → va_S A s.heap H1 locs1 → H1.size = b + kK cs9 → W p l e room_1 s m #[Value.ref bb] below meth c H1 locs1 (kK cs9) (kM cs9) (lw_Z below #[Value.ref bb] s) (F0 m 750 ls [])) : W p l e room_1 s m #[Value.ref bb] below meth c H locs (kK cs) (kM cs) (lw_Z below #[Value.ref bb] s) (F0 m 478 ls []) := by
  obtain ⟨hx, hb, hr, hml, hown, hts, hX, hbl, hlocks, hgv⟩ := id C0
  unfold lk_10 at hf
  obtain ⟨u0, e0, hf⟩ := ob hf
  obtain ⟨r1, e1, hf⟩ := ob hf
  obtain ⟨r2, e2, hf⟩ := ob hf
  have hf : (if r1 = r2 then some (cs, rs) else none) = some (cs9, rs9) := hf
  by_cases hq : r1 = r2
  case neg => rw [if_neg hq] at hf; cases hf
  rw [if_pos hq] at hf
  cases hf
  have hcc : s.heap.size + kK cs = b + kK cs := by rw [hbe]
  refine lv_aload_n hx hb dL_law_478 rfl (lv_at hl 2 rfl) ?_
  refine jbI (nL := 4) (As := []) (rest := []) (X := 12) (i := 0) (wf := mW cB cI cJ cZ h0 a rs) hx hb hml hts hown hK hP hD hS hA hz hcc hZ (by decide) rfl (ckE_some e0) (sc_X11_changes l dC dI cB cI cJ cZ cS cO b K V fz F cs 0  r1 e1) (cwV 0 hts (gd_law (in_V kw_1608 kw_1609 kw_1610 kw_181 kc_X11_changes)) rfl rfl rfl (by decide +kernel) ⟨Nat.le_of_ble_eq_true rfl, Nat.le_of_ble_eq_true rfl⟩) rfl hl.1 (Nat.le_of_ble_eq_true rfl) ⟨by show kK cs ≤ 600000; omega, by show kM cs ≤ 7302250; omega⟩ dL_law_479 (fun H1 locs1 hP1 hD1 hS1 hz1 => ?_)
  refine lv_aload_n hx hb dL_law_482 rfl (lv_at hl 1 rfl) ?_
  refine jmI (nL := 4) (As := []) (rest := [.int r1]) (wf := cW cB cI cJ cZ cS cO b cs) hx hb hml hts hown hK (va_P_sw hP1) (va_D_sw hD1) hS1 hA (by rw [hz1, hbe]) hZ (s_changes l dC dI cB cI cJ cZ h0 a K V fz F rs  r2 e2) (cwV 0 hts (gd_law (in_V kw_2460 kw_2461 kw_2462 kw_191 kc_X12_changes)) rfl rfl rfl (by decide +kernel) ⟨Nat.le_of_ble_eq_true rfl, Nat.le_of_ble_eq_true rfl⟩) rfl hl.1 (Nat.le_of_ble_eq_true rfl) ⟨hR1, hR2⟩ dL_law_483 (fun H2 locs2 hP2 hD2 hS2 hz2 => ?_)
  refine lv_icmp_eq (tgt := 750) hx hb dL_law_486 (by decide) (fun c_ => ?_) (fun c_ => ?_)
  · exact kk H2 locs2 (va_P_sw hP2) (va_D_sw hD2) hS2 (hz2.trans hz1)
  · exact absurd hq c_
set_option maxRecDepth 100000 in
theorem ls_11 {p : Program} {l : Launch} {e : Env} {s : State} {m : MethodId} {below : List Frame} {meth : Method} {c : Code} {dC : Nat → ClassId} {dI : Nat → Nat → Nat} {cB cI cJ cZ cS cO : ClassId} {bb L : Nat} {xs : Nat → Int32} {K V : Nat → Nat} {fz : Value} {A : Nat → Prop} {b h0 : Nat} {a : Nat → Nat} (C0 : lw_At p s m meth c bb L xs) (hZ : zE K V fz A s) (hA : ∀ q : Nat, s.heap.size ≤ q → A q) (hbA : ¬ A bb) (hbe : s.heap.size = b) (hK : va_K (dC, dI) vwCl [(cB, .byte), (cI, .int), (cJ, .long), (cZ, .boolean), (cS, .object "StreamQueries$Source"), (cO, .object "java/lang/Object")] s) {F i : Nat} {cs cs9 : CS} {rs rs9 : RS} {H : Heap} {locs : List Loc} {ls : Array Slot} (hi : i + 6 ≤ L) (hL : L ≤ 384) (hP : va_P (dC, dI) vwCl (cW cB cI cJ cZ cS cO b cs ++ mW cB cI cJ cZ h0 a rs) H) (hD : va_D A (cW cB cI cJ cZ cS cO b cs ++ mW cB cI cJ cZ h0 a rs)) (hS : va_S A s.heap H locs) (hz : H.size = b + kK cs) (hf : lk_11 F cs rs (xs (i + 1)) (xs (i + 2)) (xs (i + 3)) (xs (i + 4)) (xs (i + 5)) = some (cs9, rs9)) (hR1 : kK cs9 ≤ 600000) (hR2 : kM cs9 ≤ 7302250) (hl : lv_has ls 4 [(3, .int (nI i)), (2, .ref h0), (1, .ref (b + 0)), (0, .ref bb)]) (kk : ∀ (H1 : Heap) (locs1 : List Loc), va_P (dC, dI) vwCl (cW cB cI cJ cZ cS cO b cs9 ++ mW cB cI cJ cZ h0 a rs9) H1 → va_D A (cW cB cI cJ cZ cS cO b cs9 ++ mW cB cI cJ cZ h0 a rs9) → va_S A s.heap H1 locs1 → H1.size = b + kK cs9 → W p l e room_1 s m #[Value.ref bb] below meth c H1 locs1 (kK cs9) (kM cs9) (lw_Z below #[Value.ref bb] s) (F0 m 750 ls [])) : W p l e room_1 s m #[Value.ref bb] below meth c H locs (kK cs) (kM cs) (lw_Z below #[Value.ref bb] s) (F0 m 491 ls []) := by
  obtain ⟨hx, hb, hr, hml, hown, hts, hX, hbl, hlocks, hgv⟩ := id C0
  unfold lk_11 at hf
  obtain ⟨u0, e0, hf⟩ := ob hf
  obtain ⟨r1, e1, hf⟩ := ob hf
  obtain ⟨r2, e2, hf⟩ := ob hf
  have hf : (if r1 = r2 then some (cs, rs) else none) = some (cs9, rs9) := hf
  by_cases hq : r1 = r2
  case neg => rw [if_neg hq] at hf; cases hf
  rw [if_pos hq] at hf
  cases hf
  have hcc : s.heap.size + kK cs = b + kK cs := by rw [hbe]
  refine lv_aload_n hx hb dL_law_491 rfl (lv_at hl 2 rfl) ?_
  refine lv_aload_n hx hb dL_law_492 rfl (lv_at hl 3 rfl) ?_
  refine lv_iload_n hx hb dL_law_493 rfl (lv_at hl 0 rfl) ?_
  refine lv_iconst (v := 1) hx hb dL_law_494 (by decide) ?_
  refine lv_iadd hx hb dL_law_495 ?_
  refine lv_topi (fun y_ ey_ => ?_)
  have ey_ : y_ = nI (i + 1) := ey_.trans (pk_add1 i 1)
  subst ey_
  refine va_sld hx hb hX hbl hbA hS (i := i + 1) (vp_in_nI (n := i + 1) (N := L) (by omega) (by omega)) dL_law_496 ?_
  refine lv_topi (fun y_ ey_ => ?_)
  have ey_ : y_ = xs (i + 1) := ey_.trans (congrArg xs (nI_clamp (n := i + 1) (by omega)))
  subst ey_
  refine jbI (nL := 4) (As := [.int (xs (i + 1))]) (rest := []) (X := 12) (i := 0) (wf := mW cB cI cJ cZ h0 a rs) hx hb hml hts hown hK hP hD hS hA hz hcc hZ (by decide) rfl (ckE_some e0) (sc_X11_change l dC dI cB cI cJ cZ cS cO b K V fz F cs 0 (xs (i + 1)) r1 e1) (cwV 1 hts (gd_law (in_V kw_1612 kw_1613 kw_1614 kw_181 kc_X11_change)) rfl rfl rfl (by decide +kernel) ⟨Nat.le_of_ble_eq_true rfl, Nat.le_of_ble_eq_true rfl⟩) rfl hl.1 (Nat.le_of_ble_eq_true rfl) ⟨by show kK cs ≤ 600000; omega, by show kM cs ≤ 7302250; omega⟩ dL_law_497 (fun H1 locs1 hP1 hD1 hS1 hz1 => ?_)
  refine lv_aload_n hx hb dL_law_500 rfl (lv_at hl 1 rfl) ?_
  refine lv_aload_n hx hb dL_law_501 rfl (lv_at hl 3 rfl) ?_
  refine lv_iload_n hx hb dL_law_502 rfl (lv_at hl 0 rfl) ?_
  refine lv_iconst (v := 1) hx hb dL_law_503 (by decide) ?_
  refine lv_iadd hx hb dL_law_504 ?_
  refine lv_topi (fun y_ ey_ => ?_)
  have ey_ : y_ = nI (i + 1) := ey_.trans (pk_add1 i 1)
  subst ey_
  refine va_sld hx hb hX hbl hbA hS1 (i := i + 1) (vp_in_nI (n := i + 1) (N := L) (by omega) (by omega)) dL_law_505 ?_
  refine lv_topi (fun y_ ey_ => ?_)
  have ey_ : y_ = xs (i + 1) := ey_.trans (congrArg xs (nI_clamp (n := i + 1) (by omega)))
  subst ey_
  refine jmI (nL := 4) (As := [.int (xs (i + 1))]) (rest := [.int r1]) (wf := cW cB cI cJ cZ cS cO b cs) hx hb hml hts hown hK (va_P_sw hP1) (va_D_sw hD1) hS1 hA (by rw [hz1, hbe]) hZ (s_change l dC dI cB cI cJ cZ h0 a K V fz F rs (xs (i + 1)) r2 e2) (cwV 1 hts (gd_law (in_V kw_2464 kw_2465 kw_2466 kw_191 kc_X12_change)) rfl rfl rfl (by decide +kernel) ⟨Nat.le_of_ble_eq_true rfl, Nat.le_of_ble_eq_true rfl⟩) rfl hl.1 (Nat.le_of_ble_eq_true rfl) ⟨hR1, hR2⟩ dL_law_506 (fun H2 locs2 hP2 hD2 hS2 hz2 => ?_)
  refine lv_icmp_eq (tgt := 750) hx hb dL_law_509 (by decide) (fun c_ => ?_) (fun c_ => ?_)
  · exact kk H2 locs2 (va_P_sw hP2) (va_D_sw hD2) hS2 (hz2.trans hz1)
  · exact absurd hq c_
set_option maxRecDepth 100000 in
theorem ls_12 {p : Program} {l : Launch} {e : Env} {s : State} {m : MethodId} {below : List Frame} {meth : Method} {c : Code} {dC : Nat → ClassId} {dI : Nat → Nat → Nat} {cB cI cJ cZ cS cO : ClassId} {bb L : Nat} {xs : Nat → Int32} {K V : Nat → Nat} {fz : Value} {A : Nat → Prop} {b h0 : Nat} {a : Nat → Nat} (C0 : lw_At p s m meth c bb L xs) (hZ : zE K V fz A s) (hA : ∀ q : Nat, s.heap.size ≤ q → A q) (hbA : ¬ A bb) (hbe : s.heap.size = b) (hK : va_K (dC, dI) vwCl [(cB, .byte), (cI, .int), (cJ, .long), (cZ, .boolean), (cS, .object "StreamQueries$Source"), (cO, .object "java/lang/Object")] s) {F i : Nat} {cs cs9 : CS} {rs rs9 : RS} {H : Heap} {locs : List Loc} {ls : Array Slot} (hi : i + 6 ≤ L) (hL : L ≤ 384) (hP : va_P (dC, dI) vwCl (cW cB cI cJ cZ cS cO b cs ++ mW cB cI cJ cZ h0 a rs) H) (hD : va_D A (cW cB cI cJ cZ cS cO b cs ++ mW cB cI cJ cZ h0 a rs)) (hS : va_S A s.heap H locs) (hz : H.size = b + kK cs) (hf : lk_12 F cs rs (xs (i + 1)) (xs (i + 2)) (xs (i + 3)) (xs (i + 4)) (xs (i + 5)) = some (cs9, rs9)) (hR1 : kK cs9 ≤ 600000) (hR2 : kM cs9 ≤ 7302250) (hl : lv_has ls 4 [(3, .int (nI i)), (2, .ref h0), (1, .ref (b + 0)), (0, .ref bb)]) (kk : ∀ (H1 : Heap) (locs1 : List Loc), va_P (dC, dI) vwCl (cW cB cI cJ cZ cS cO b cs9 ++ mW cB cI cJ cZ h0 a rs9) H1 → va_D A (cW cB cI cJ cZ cS cO b cs9 ++ mW cB cI cJ cZ h0 a rs9) → va_S A s.heap H1 locs1 → H1.size = b + kK cs9 → W p l e room_1 s m #[Value.ref bb] below meth c H1 locs1 (kK cs9) (kM cs9) (lw_Z below #[Value.ref bb] s) (F0 m 750 ls [])) : W p l e room_1 s m #[Value.ref bb] below meth c H locs (kK cs) (kM cs) (lw_Z below #[Value.ref bb] s) (F0 m 514 ls []) := by
  obtain ⟨hx, hb, hr, hml, hown, hts, hX, hbl, hlocks, hgv⟩ := id C0
  unfold lk_12 at hf
  obtain ⟨u0, e0, hf⟩ := ob hf
  obtain ⟨r1, e1, hf⟩ := ob hf
  obtain ⟨r2, e2, hf⟩ := ob hf
  have hf : (if r1 = r2 then some (cs, rs) else none) = some (cs9, rs9) := hf
  by_cases hq : r1 = r2
  case neg => rw [if_neg hq] at hf; cases hf
  rw [if_pos hq] at hf
  cases hf
  have hcc : s.heap.size + kK cs = b + kK cs := by rw [hbe]
  refine lv_aload_n hx hb dL_law_514 rfl (lv_at hl 2 rfl) ?_
  refine lv_aload_n hx hb dL_law_515 rfl (lv_at hl 3 rfl) ?_
  refine lv_iload_n hx hb dL_law_516 rfl (lv_at hl 0 rfl) ?_
  refine lv_iconst (v := 1) hx hb dL_law_517 (by decide) ?_
  refine lv_iadd hx hb dL_law_518 ?_
  refine lv_topi (fun y_ ey_ => ?_)
  have ey_ : y_ = nI (i + 1) := ey_.trans (pk_add1 i 1)
  subst ey_
  refine va_sld hx hb hX hbl hbA hS (i := i + 1) (vp_in_nI (n := i + 1) (N := L) (by omega) (by omega)) dL_law_519 ?_
  refine lv_topi (fun y_ ey_ => ?_)
  have ey_ : y_ = xs (i + 1) := ey_.trans (congrArg xs (nI_clamp (n := i + 1) (by omega)))
  subst ey_
  refine lv_aload_n hx hb dL_law_520 rfl (lv_at hl 3 rfl) ?_
  refine lv_iload_n hx hb dL_law_521 rfl (lv_at hl 0 rfl) ?_
  refine lv_iconst (v := 2) hx hb dL_law_522 (by decide) ?_
  refine lv_iadd hx hb dL_law_523 ?_
  refine lv_topi (fun y_ ey_ => ?_)
  have ey_ : y_ = nI (i + 2) := ey_.trans (pk_add1 i 2)
  subst ey_
  refine va_sld hx hb hX hbl hbA hS (i := i + 2) (vp_in_nI (n := i + 2) (N := L) (by omega) (by omega)) dL_law_524 ?_
  refine lv_topi (fun y_ ey_ => ?_)
  have ey_ : y_ = xs (i + 2) := ey_.trans (congrArg xs (nI_clamp (n := i + 2) (by omega)))
  subst ey_
  refine jbL (nL := 4) (As := [.int (xs (i + 1)), .int (xs (i + 2))]) (rest := []) (X := 12) (i := 0) (wf := mW cB cI cJ cZ h0 a rs) hx hb hml hts hown hK hP hD hS hA hz hcc hZ (by decide) rfl (ckE_some e0) (sc_X11_changed l dC dI cB cI cJ cZ cS cO b K V fz F cs 0 (xs (i + 1)) (xs (i + 2)) r1 e1) (cwV 2 hts (gd_law (in_V kw_1616 kw_1617 kw_1618 kw_181 kc_X11_changed)) rfl rfl rfl (by decide +kernel) ⟨Nat.le_of_ble_eq_true rfl, Nat.le_of_ble_eq_true rfl⟩) rfl hl.1 (Nat.le_of_ble_eq_true rfl) ⟨by show kK cs ≤ 600000; omega, by show kM cs ≤ 7302250; omega⟩ dL_law_525 (fun H1 locs1 hP1 hD1 hS1 hz1 => ?_)
  refine lv_aload_n hx hb dL_law_528 rfl (lv_at hl 1 rfl) ?_
  refine lv_aload_n hx hb dL_law_529 rfl (lv_at hl 3 rfl) ?_
  refine lv_iload_n hx hb dL_law_530 rfl (lv_at hl 0 rfl) ?_
  refine lv_iconst (v := 1) hx hb dL_law_531 (by decide) ?_
  refine lv_iadd hx hb dL_law_532 ?_
  refine lv_topi (fun y_ ey_ => ?_)
  have ey_ : y_ = nI (i + 1) := ey_.trans (pk_add1 i 1)
  subst ey_
  refine va_sld hx hb hX hbl hbA hS1 (i := i + 1) (vp_in_nI (n := i + 1) (N := L) (by omega) (by omega)) dL_law_533 ?_
  refine lv_topi (fun y_ ey_ => ?_)
  have ey_ : y_ = xs (i + 1) := ey_.trans (congrArg xs (nI_clamp (n := i + 1) (by omega)))
  subst ey_
  refine lv_aload_n hx hb dL_law_534 rfl (lv_at hl 3 rfl) ?_
  refine lv_iload_n hx hb dL_law_535 rfl (lv_at hl 0 rfl) ?_
  refine lv_iconst (v := 2) hx hb dL_law_536 (by decide) ?_
  refine lv_iadd hx hb dL_law_537 ?_
  refine lv_topi (fun y_ ey_ => ?_)
  have ey_ : y_ = nI (i + 2) := ey_.trans (pk_add1 i 2)
  subst ey_
  refine va_sld hx hb hX hbl hbA hS1 (i := i + 2) (vp_in_nI (n := i + 2) (N := L) (by omega) (by omega)) dL_law_538 ?_
  refine lv_topi (fun y_ ey_ => ?_)
  have ey_ : y_ = xs (i + 2) := ey_.trans (congrArg xs (nI_clamp (n := i + 2) (by omega)))
  subst ey_
  refine jmL (nL := 4) (As := [.int (xs (i + 1)), .int (xs (i + 2))]) (rest := [.long r1]) (wf := cW cB cI cJ cZ cS cO b cs) hx hb hml hts hown hK (va_P_sw hP1) (va_D_sw hD1) hS1 hA (by rw [hz1, hbe]) hZ (s_changed l dC dI cB cI cJ cZ h0 a K V fz F rs (xs (i + 1)) (xs (i + 2)) r2 e2) (cwV 2 hts (gd_law (in_V kw_2468 kw_2469 kw_2470 kw_191 kc_X12_changed)) rfl rfl rfl (by decide +kernel) ⟨Nat.le_of_ble_eq_true rfl, Nat.le_of_ble_eq_true rfl⟩) rfl hl.1 (Nat.le_of_ble_eq_true rfl) ⟨hR1, hR2⟩ dL_law_539 (fun H2 locs2 hP2 hD2 hS2 hz2 => ?_)
  refine W.lcmp hx hb dL_law_542 ?_
  refine lv_if_eq (tgt := 750) hx hb dL_law_543 (by decide) (fun c_ => ?_) (fun c_ => ?_)
  · exact kk H2 locs2 (va_P_sw hP2) (va_D_sw hD2) hS2 (hz2.trans hz1)
  · exact absurd ((lg_cmp_eq r1 r2).mpr hq) c_
set_option maxRecDepth 100000 in
theorem ls_13 {p : Program} {l : Launch} {e : Env} {s : State} {m : MethodId} {below : List Frame} {meth : Method} {c : Code} {dC : Nat → ClassId} {dI : Nat → Nat → Nat} {cB cI cJ cZ cS cO : ClassId} {bb L : Nat} {xs : Nat → Int32} {K V : Nat → Nat} {fz : Value} {A : Nat → Prop} {b h0 : Nat} {a : Nat → Nat} (C0 : lw_At p s m meth c bb L xs) (hZ : zE K V fz A s) (hA : ∀ q : Nat, s.heap.size ≤ q → A q) (hbA : ¬ A bb) (hbe : s.heap.size = b) (hK : va_K (dC, dI) vwCl [(cB, .byte), (cI, .int), (cJ, .long), (cZ, .boolean), (cS, .object "StreamQueries$Source"), (cO, .object "java/lang/Object")] s) {F i : Nat} {cs cs9 : CS} {rs rs9 : RS} {H : Heap} {locs : List Loc} {ls : Array Slot} (hi : i + 6 ≤ L) (hL : L ≤ 384) (hP : va_P (dC, dI) vwCl (cW cB cI cJ cZ cS cO b cs ++ mW cB cI cJ cZ h0 a rs) H) (hD : va_D A (cW cB cI cJ cZ cS cO b cs ++ mW cB cI cJ cZ h0 a rs)) (hS : va_S A s.heap H locs) (hz : H.size = b + kK cs) (hf : lk_13 F cs rs (xs (i + 1)) (xs (i + 2)) (xs (i + 3)) (xs (i + 4)) (xs (i + 5)) = some (cs9, rs9)) (hR1 : kK cs9 ≤ 600000) (hR2 : kM cs9 ≤ 7302250) (hl : lv_has ls 4 [(3, .int (nI i)), (2, .ref h0), (1, .ref (b + 0)), (0, .ref bb)]) (kk : ∀ (H1 : Heap) (locs1 : List Loc), va_P (dC, dI) vwCl (cW cB cI cJ cZ cS cO b cs9 ++ mW cB cI cJ cZ h0 a rs9) H1 → va_D A (cW cB cI cJ cZ cS cO b cs9 ++ mW cB cI cJ cZ h0 a rs9) → va_S A s.heap H1 locs1 → H1.size = b + kK cs9 → W p l e room_1 s m #[Value.ref bb] below meth c H1 locs1 (kK cs9) (kM cs9) (lw_Z below #[Value.ref bb] s) (F0 m 750 ls [])) : W p l e room_1 s m #[Value.ref bb] below meth c H locs (kK cs) (kM cs) (lw_Z below #[Value.ref bb] s) (F0 m 548 ls []) := by
  obtain ⟨hx, hb, hr, hml, hown, hts, hX, hbl, hlocks, hgv⟩ := id C0
  unfold lk_13 at hf
  obtain ⟨u0, e0, hf⟩ := ob hf
  obtain ⟨r1, e1, hf⟩ := ob hf
  obtain ⟨r2, e2, hf⟩ := ob hf
  have hf : (if r1 = r2 then some (cs, rs) else none) = some (cs9, rs9) := hf
  by_cases hq : r1 = r2
  case neg => rw [if_neg hq] at hf; cases hf
  rw [if_pos hq] at hf
  cases hf
  have hcc : s.heap.size + kK cs = b + kK cs := by rw [hbe]
  refine lv_aload_n hx hb dL_law_548 rfl (lv_at hl 2 rfl) ?_
  refine lv_aload_n hx hb dL_law_549 rfl (lv_at hl 3 rfl) ?_
  refine lv_iload_n hx hb dL_law_550 rfl (lv_at hl 0 rfl) ?_
  refine lv_iconst (v := 1) hx hb dL_law_551 (by decide) ?_
  refine lv_iadd hx hb dL_law_552 ?_
  refine lv_topi (fun y_ ey_ => ?_)
  have ey_ : y_ = nI (i + 1) := ey_.trans (pk_add1 i 1)
  subst ey_
  refine va_sld hx hb hX hbl hbA hS (i := i + 1) (vp_in_nI (n := i + 1) (N := L) (by omega) (by omega)) dL_law_553 ?_
  refine lv_topi (fun y_ ey_ => ?_)
  have ey_ : y_ = xs (i + 1) := ey_.trans (congrArg xs (nI_clamp (n := i + 1) (by omega)))
  subst ey_
  refine lv_aload_n hx hb dL_law_554 rfl (lv_at hl 3 rfl) ?_
  refine lv_iload_n hx hb dL_law_555 rfl (lv_at hl 0 rfl) ?_
  refine lv_iconst (v := 2) hx hb dL_law_556 (by decide) ?_
  refine lv_iadd hx hb dL_law_557 ?_
  refine lv_topi (fun y_ ey_ => ?_)
  have ey_ : y_ = nI (i + 2) := ey_.trans (pk_add1 i 2)
  subst ey_
  refine va_sld hx hb hX hbl hbA hS (i := i + 2) (vp_in_nI (n := i + 2) (N := L) (by omega) (by omega)) dL_law_558 ?_
  refine lv_topi (fun y_ ey_ => ?_)
  have ey_ : y_ = xs (i + 2) := ey_.trans (congrArg xs (nI_clamp (n := i + 2) (by omega)))
  subst ey_
  refine jbI (nL := 4) (As := [.int (xs (i + 1)), .int (xs (i + 2))]) (rest := []) (X := 12) (i := 0) (wf := mW cB cI cJ cZ h0 a rs) hx hb hml hts hown hK hP hD hS hA hz hcc hZ (by decide) rfl (ckE_some e0) (sc_X11_changedNull l dC dI cB cI cJ cZ cS cO b K V fz F cs 0 (xs (i + 1)) (xs (i + 2)) r1 e1) (cwV 2 hts (gd_law (in_V kw_1626 kw_1627 kw_1628 kw_181 kc_X11_changedNull)) rfl rfl rfl (by decide +kernel) ⟨Nat.le_of_ble_eq_true rfl, Nat.le_of_ble_eq_true rfl⟩) rfl hl.1 (Nat.le_of_ble_eq_true rfl) ⟨by show kK cs ≤ 600000; omega, by show kM cs ≤ 7302250; omega⟩ dL_law_559 (fun H1 locs1 hP1 hD1 hS1 hz1 => ?_)
  refine lv_aload_n hx hb dL_law_562 rfl (lv_at hl 1 rfl) ?_
  refine lv_aload_n hx hb dL_law_563 rfl (lv_at hl 3 rfl) ?_
  refine lv_iload_n hx hb dL_law_564 rfl (lv_at hl 0 rfl) ?_
  refine lv_iconst (v := 1) hx hb dL_law_565 (by decide) ?_
  refine lv_iadd hx hb dL_law_566 ?_
  refine lv_topi (fun y_ ey_ => ?_)
  have ey_ : y_ = nI (i + 1) := ey_.trans (pk_add1 i 1)
  subst ey_
  refine va_sld hx hb hX hbl hbA hS1 (i := i + 1) (vp_in_nI (n := i + 1) (N := L) (by omega) (by omega)) dL_law_567 ?_
  refine lv_topi (fun y_ ey_ => ?_)
  have ey_ : y_ = xs (i + 1) := ey_.trans (congrArg xs (nI_clamp (n := i + 1) (by omega)))
  subst ey_
  refine lv_aload_n hx hb dL_law_568 rfl (lv_at hl 3 rfl) ?_
  refine lv_iload_n hx hb dL_law_569 rfl (lv_at hl 0 rfl) ?_
  refine lv_iconst (v := 2) hx hb dL_law_570 (by decide) ?_
  refine lv_iadd hx hb dL_law_571 ?_
  refine lv_topi (fun y_ ey_ => ?_)
  have ey_ : y_ = nI (i + 2) := ey_.trans (pk_add1 i 2)
  subst ey_
  refine va_sld hx hb hX hbl hbA hS1 (i := i + 2) (vp_in_nI (n := i + 2) (N := L) (by omega) (by omega)) dL_law_572 ?_
  refine lv_topi (fun y_ ey_ => ?_)
  have ey_ : y_ = xs (i + 2) := ey_.trans (congrArg xs (nI_clamp (n := i + 2) (by omega)))
  subst ey_
  refine jmI (nL := 4) (As := [.int (xs (i + 1)), .int (xs (i + 2))]) (rest := [.int r1]) (wf := cW cB cI cJ cZ cS cO b cs) hx hb hml hts hown hK (va_P_sw hP1) (va_D_sw hD1) hS1 hA (by rw [hz1, hbe]) hZ (s_changedNull l dC dI cB cI cJ cZ h0 a K V fz F rs (xs (i + 1)) (xs (i + 2)) r2 e2) (cwV 2 hts (gd_law (in_V kw_2476 kw_2477 kw_2478 kw_191 kc_X12_changedNull)) rfl rfl rfl (by decide +kernel) ⟨Nat.le_of_ble_eq_true rfl, Nat.le_of_ble_eq_true rfl⟩) rfl hl.1 (Nat.le_of_ble_eq_true rfl) ⟨hR1, hR2⟩ dL_law_573 (fun H2 locs2 hP2 hD2 hS2 hz2 => ?_)
  refine lv_icmp_eq (tgt := 750) hx hb dL_law_576 (by decide) (fun c_ => ?_) (fun c_ => ?_)
  · exact kk H2 locs2 (va_P_sw hP2) (va_D_sw hD2) hS2 (hz2.trans hz1)
  · exact absurd hq c_
set_option maxRecDepth 100000 in
theorem ls_14 {p : Program} {l : Launch} {e : Env} {s : State} {m : MethodId} {below : List Frame} {meth : Method} {c : Code} {dC : Nat → ClassId} {dI : Nat → Nat → Nat} {cB cI cJ cZ cS cO : ClassId} {bb L : Nat} {xs : Nat → Int32} {K V : Nat → Nat} {fz : Value} {A : Nat → Prop} {b h0 : Nat} {a : Nat → Nat} (C0 : lw_At p s m meth c bb L xs) (hZ : zE K V fz A s) (hA : ∀ q : Nat, s.heap.size ≤ q → A q) (hbA : ¬ A bb) (hbe : s.heap.size = b) (hK : va_K (dC, dI) vwCl [(cB, .byte), (cI, .int), (cJ, .long), (cZ, .boolean), (cS, .object "StreamQueries$Source"), (cO, .object "java/lang/Object")] s) {F i : Nat} {cs cs9 : CS} {rs rs9 : RS} {H : Heap} {locs : List Loc} {ls : Array Slot} (hi : i + 6 ≤ L) (hL : L ≤ 384) (hP : va_P (dC, dI) vwCl (cW cB cI cJ cZ cS cO b cs ++ mW cB cI cJ cZ h0 a rs) H) (hD : va_D A (cW cB cI cJ cZ cS cO b cs ++ mW cB cI cJ cZ h0 a rs)) (hS : va_S A s.heap H locs) (hz : H.size = b + kK cs) (hf : lk_14 F cs rs (xs (i + 1)) (xs (i + 2)) (xs (i + 3)) (xs (i + 4)) (xs (i + 5)) = some (cs9, rs9)) (hR1 : kK cs9 ≤ 600000) (hR2 : kM cs9 ≤ 7302250) (hl : lv_has ls 4 [(3, .int (nI i)), (2, .ref h0), (1, .ref (b + 0)), (0, .ref bb)]) (kk : ∀ (H1 : Heap) (locs1 : List Loc), va_P (dC, dI) vwCl (cW cB cI cJ cZ cS cO b cs9 ++ mW cB cI cJ cZ h0 a rs9) H1 → va_D A (cW cB cI cJ cZ cS cO b cs9 ++ mW cB cI cJ cZ h0 a rs9) → va_S A s.heap H1 locs1 → H1.size = b + kK cs9 → W p l e room_1 s m #[Value.ref bb] below meth c H1 locs1 (kK cs9) (kM cs9) (lw_Z below #[Value.ref bb] s) (F0 m 750 ls [])) : W p l e room_1 s m #[Value.ref bb] below meth c H locs (kK cs) (kM cs) (lw_Z below #[Value.ref bb] s) (F0 m 581 ls []) := by
  obtain ⟨hx, hb, hr, hml, hown, hts, hX, hbl, hlocks, hgv⟩ := id C0
  unfold lk_14 at hf
  obtain ⟨u0, e0, hf⟩ := ob hf
  obtain ⟨r1, e1, hf⟩ := ob hf
  obtain ⟨r2, e2, hf⟩ := ob hf
  have hf : (if r1 = r2 then some (cs, rs) else none) = some (cs9, rs9) := hf
  by_cases hq : r1 = r2
  case neg => rw [if_neg hq] at hf; cases hf
  rw [if_pos hq] at hf
  cases hf
  have hcc : s.heap.size + kK cs = b + kK cs := by rw [hbe]
  refine lv_aload_n hx hb dL_law_581 rfl (lv_at hl 2 rfl) ?_
  refine jbI (nL := 4) (As := []) (rest := []) (X := 12) (i := 0) (wf := mW cB cI cJ cZ h0 a rs) hx hb hml hts hown hK hP hD hS hA hz hcc hZ (by decide) rfl (ckE_some e0) (sc_X11_rows l dC dI cB cI cJ cZ cS cO b K V fz F cs 0  r1 e1) (cwV 0 hts (gd_law (in_V kw_1631 kw_1632 kw_1633 kw_181 kc_X11_rows)) rfl rfl rfl (by decide +kernel) ⟨Nat.le_of_ble_eq_true rfl, Nat.le_of_ble_eq_true rfl⟩) rfl hl.1 (Nat.le_of_ble_eq_true rfl) ⟨by show kK cs ≤ 600000; omega, by show kM cs ≤ 7302250; omega⟩ dL_law_582 (fun H1 locs1 hP1 hD1 hS1 hz1 => ?_)
  refine lv_aload_n hx hb dL_law_585 rfl (lv_at hl 1 rfl) ?_
  refine jmI (nL := 4) (As := []) (rest := [.int r1]) (wf := cW cB cI cJ cZ cS cO b cs) hx hb hml hts hown hK (va_P_sw hP1) (va_D_sw hD1) hS1 hA (by rw [hz1, hbe]) hZ (s_rows l dC dI cB cI cJ cZ h0 a K V fz F rs  r2 e2) (cwV 0 hts (gd_law (in_V kw_2480 kw_2481 kw_2482 kw_191 kc_X12_rows)) rfl rfl rfl (by decide +kernel) ⟨Nat.le_of_ble_eq_true rfl, Nat.le_of_ble_eq_true rfl⟩) rfl hl.1 (Nat.le_of_ble_eq_true rfl) ⟨hR1, hR2⟩ dL_law_586 (fun H2 locs2 hP2 hD2 hS2 hz2 => ?_)
  refine lv_icmp_eq (tgt := 750) hx hb dL_law_589 (by decide) (fun c_ => ?_) (fun c_ => ?_)
  · exact kk H2 locs2 (va_P_sw hP2) (va_D_sw hD2) hS2 (hz2.trans hz1)
  · exact absurd hq c_
set_option maxRecDepth 100000 in
theorem ls_15 {p : Program} {l : Launch} {e : Env} {s : State} {m : MethodId} {below : List Frame} {meth : Method} {c : Code} {dC : Nat → ClassId} {dI : Nat → Nat → Nat} {cB cI cJ cZ cS cO : ClassId} {bb L : Nat} {xs : Nat → Int32} {K V : Nat → Nat} {fz : Value} {A : Nat → Prop} {b h0 : Nat} {a : Nat → Nat} (C0 : lw_At p s m meth c bb L xs) (hZ : zE K V fz A s) (hA : ∀ q : Nat, s.heap.size ≤ q → A q) (hbA : ¬ A bb) (hbe : s.heap.size = b) (hK : va_K (dC, dI) vwCl [(cB, .byte), (cI, .int), (cJ, .long), (cZ, .boolean), (cS, .object "StreamQueries$Source"), (cO, .object "java/lang/Object")] s) {F i : Nat} {cs cs9 : CS} {rs rs9 : RS} {H : Heap} {locs : List Loc} {ls : Array Slot} (hi : i + 6 ≤ L) (hL : L ≤ 384) (hP : va_P (dC, dI) vwCl (cW cB cI cJ cZ cS cO b cs ++ mW cB cI cJ cZ h0 a rs) H) (hD : va_D A (cW cB cI cJ cZ cS cO b cs ++ mW cB cI cJ cZ h0 a rs)) (hS : va_S A s.heap H locs) (hz : H.size = b + kK cs) (hf : lk_15 F cs rs (xs (i + 1)) (xs (i + 2)) (xs (i + 3)) (xs (i + 4)) (xs (i + 5)) = some (cs9, rs9)) (hR1 : kK cs9 ≤ 600000) (hR2 : kM cs9 ≤ 7302250) (hl : lv_has ls 4 [(3, .int (nI i)), (2, .ref h0), (1, .ref (b + 0)), (0, .ref bb)]) (kk : ∀ (H1 : Heap) (locs1 : List Loc), va_P (dC, dI) vwCl (cW cB cI cJ cZ cS cO b cs9 ++ mW cB cI cJ cZ h0 a rs9) H1 → va_D A (cW cB cI cJ cZ cS cO b cs9 ++ mW cB cI cJ cZ h0 a rs9) → va_S A s.heap H1 locs1 → H1.size = b + kK cs9 → W p l e room_1 s m #[Value.ref bb] below meth c H1 locs1 (kK cs9) (kM cs9) (lw_Z below #[Value.ref bb] s) (F0 m 750 ls [])) : W p l e room_1 s m #[Value.ref bb] below meth c H locs (kK cs) (kM cs) (lw_Z below #[Value.ref bb] s) (F0 m 594 ls []) := by
  obtain ⟨hx, hb, hr, hml, hown, hts, hX, hbl, hlocks, hgv⟩ := id C0
  unfold lk_15 at hf
  obtain ⟨u0, e0, hf⟩ := ob hf
  obtain ⟨r1, e1, hf⟩ := ob hf
  obtain ⟨r2, e2, hf⟩ := ob hf
  have hf : (if r1 = r2 then some (cs, rs) else none) = some (cs9, rs9) := hf
  by_cases hq : r1 = r2
  case neg => rw [if_neg hq] at hf; cases hf
  rw [if_pos hq] at hf
  cases hf
  have hcc : s.heap.size + kK cs = b + kK cs := by rw [hbe]
  refine lv_aload_n hx hb dL_law_594 rfl (lv_at hl 2 rfl) ?_
  refine lv_aload_n hx hb dL_law_595 rfl (lv_at hl 3 rfl) ?_
  refine lv_iload_n hx hb dL_law_596 rfl (lv_at hl 0 rfl) ?_
  refine lv_iconst (v := 1) hx hb dL_law_597 (by decide) ?_
  refine lv_iadd hx hb dL_law_598 ?_
  refine lv_topi (fun y_ ey_ => ?_)
  have ey_ : y_ = nI (i + 1) := ey_.trans (pk_add1 i 1)
  subst ey_
  refine va_sld hx hb hX hbl hbA hS (i := i + 1) (vp_in_nI (n := i + 1) (N := L) (by omega) (by omega)) dL_law_599 ?_
  refine lv_topi (fun y_ ey_ => ?_)
  have ey_ : y_ = xs (i + 1) := ey_.trans (congrArg xs (nI_clamp (n := i + 1) (by omega)))
  subst ey_
  refine lv_aload_n hx hb dL_law_600 rfl (lv_at hl 3 rfl) ?_
  refine lv_iload_n hx hb dL_law_601 rfl (lv_at hl 0 rfl) ?_
  refine lv_iconst (v := 2) hx hb dL_law_602 (by decide) ?_
  refine lv_iadd hx hb dL_law_603 ?_
  refine lv_topi (fun y_ ey_ => ?_)
  have ey_ : y_ = nI (i + 2) := ey_.trans (pk_add1 i 2)
  subst ey_
  refine va_sld hx hb hX hbl hbA hS (i := i + 2) (vp_in_nI (n := i + 2) (N := L) (by omega) (by omega)) dL_law_604 ?_
  refine lv_topi (fun y_ ey_ => ?_)
  have ey_ : y_ = xs (i + 2) := ey_.trans (congrArg xs (nI_clamp (n := i + 2) (by omega)))
  subst ey_
  refine jbL (nL := 4) (As := [.int (xs (i + 1)), .int (xs (i + 2))]) (rest := []) (X := 12) (i := 0) (wf := mW cB cI cJ cZ h0 a rs) hx hb hml hts hown hK hP hD hS hA hz hcc hZ (by decide) rfl (ckE_some e0) (sc_X11_at l dC dI cB cI cJ cZ cS cO b K V fz F cs 0 (xs (i + 1)) (xs (i + 2)) r1 e1) (cwV 2 hts (gd_law (in_V kw_1635 kw_1636 kw_1637 kw_181 kc_X11_at)) rfl rfl rfl (by decide +kernel) ⟨Nat.le_of_ble_eq_true rfl, Nat.le_of_ble_eq_true rfl⟩) rfl hl.1 (Nat.le_of_ble_eq_true rfl) ⟨by show kK cs ≤ 600000; omega, by show kM cs ≤ 7302250; omega⟩ dL_law_605 (fun H1 locs1 hP1 hD1 hS1 hz1 => ?_)
  refine lv_aload_n hx hb dL_law_608 rfl (lv_at hl 1 rfl) ?_
  refine lv_aload_n hx hb dL_law_609 rfl (lv_at hl 3 rfl) ?_
  refine lv_iload_n hx hb dL_law_610 rfl (lv_at hl 0 rfl) ?_
  refine lv_iconst (v := 1) hx hb dL_law_611 (by decide) ?_
  refine lv_iadd hx hb dL_law_612 ?_
  refine lv_topi (fun y_ ey_ => ?_)
  have ey_ : y_ = nI (i + 1) := ey_.trans (pk_add1 i 1)
  subst ey_
  refine va_sld hx hb hX hbl hbA hS1 (i := i + 1) (vp_in_nI (n := i + 1) (N := L) (by omega) (by omega)) dL_law_613 ?_
  refine lv_topi (fun y_ ey_ => ?_)
  have ey_ : y_ = xs (i + 1) := ey_.trans (congrArg xs (nI_clamp (n := i + 1) (by omega)))
  subst ey_
  refine lv_aload_n hx hb dL_law_614 rfl (lv_at hl 3 rfl) ?_
  refine lv_iload_n hx hb dL_law_615 rfl (lv_at hl 0 rfl) ?_
  refine lv_iconst (v := 2) hx hb dL_law_616 (by decide) ?_
  refine lv_iadd hx hb dL_law_617 ?_
  refine lv_topi (fun y_ ey_ => ?_)
  have ey_ : y_ = nI (i + 2) := ey_.trans (pk_add1 i 2)
  subst ey_
  refine va_sld hx hb hX hbl hbA hS1 (i := i + 2) (vp_in_nI (n := i + 2) (N := L) (by omega) (by omega)) dL_law_618 ?_
  refine lv_topi (fun y_ ey_ => ?_)
  have ey_ : y_ = xs (i + 2) := ey_.trans (congrArg xs (nI_clamp (n := i + 2) (by omega)))
  subst ey_
  refine jmL (nL := 4) (As := [.int (xs (i + 1)), .int (xs (i + 2))]) (rest := [.long r1]) (wf := cW cB cI cJ cZ cS cO b cs) hx hb hml hts hown hK (va_P_sw hP1) (va_D_sw hD1) hS1 hA (by rw [hz1, hbe]) hZ (s_at l dC dI cB cI cJ cZ h0 a K V fz F rs (xs (i + 1)) (xs (i + 2)) r2 e2) (cwV 2 hts (gd_law (in_V kw_2484 kw_2485 kw_2486 kw_191 kc_X12_at)) rfl rfl rfl (by decide +kernel) ⟨Nat.le_of_ble_eq_true rfl, Nat.le_of_ble_eq_true rfl⟩) rfl hl.1 (Nat.le_of_ble_eq_true rfl) ⟨hR1, hR2⟩ dL_law_619 (fun H2 locs2 hP2 hD2 hS2 hz2 => ?_)
  refine W.lcmp hx hb dL_law_622 ?_
  refine lv_if_eq (tgt := 750) hx hb dL_law_623 (by decide) (fun c_ => ?_) (fun c_ => ?_)
  · exact kk H2 locs2 (va_P_sw hP2) (va_D_sw hD2) hS2 (hz2.trans hz1)
  · exact absurd ((lg_cmp_eq r1 r2).mpr hq) c_
set_option maxRecDepth 100000 in
theorem ls_16 {p : Program} {l : Launch} {e : Env} {s : State} {m : MethodId} {below : List Frame} {meth : Method} {c : Code} {dC : Nat → ClassId} {dI : Nat → Nat → Nat} {cB cI cJ cZ cS cO : ClassId} {bb L : Nat} {xs : Nat → Int32} {K V : Nat → Nat} {fz : Value} {A : Nat → Prop} {b h0 : Nat} {a : Nat → Nat} (C0 : lw_At p s m meth c bb L xs) (hZ : zE K V fz A s) (hA : ∀ q : Nat, s.heap.size ≤ q → A q) (hbA : ¬ A bb) (hbe : s.heap.size = b) (hK : va_K (dC, dI) vwCl [(cB, .byte), (cI, .int), (cJ, .long), (cZ, .boolean), (cS, .object "StreamQueries$Source"), (cO, .object "java/lang/Object")] s) {F i : Nat} {cs cs9 : CS} {rs rs9 : RS} {H : Heap} {locs : List Loc} {ls : Array Slot} (hi : i + 6 ≤ L) (hL : L ≤ 384) (hP : va_P (dC, dI) vwCl (cW cB cI cJ cZ cS cO b cs ++ mW cB cI cJ cZ h0 a rs) H) (hD : va_D A (cW cB cI cJ cZ cS cO b cs ++ mW cB cI cJ cZ h0 a rs)) (hS : va_S A s.heap H locs) (hz : H.size = b + kK cs) (hf : lk_16 F cs rs (xs (i + 1)) (xs (i + 2)) (xs (i + 3)) (xs (i + 4)) (xs (i + 5)) = some (cs9, rs9)) (hR1 : kK cs9 ≤ 600000) (hR2 : kM cs9 ≤ 7302250) (hl : lv_has ls 4 [(3, .int (nI i)), (2, .ref h0), (1, .ref (b + 0)), (0, .ref bb)]) (kk : ∀ (H1 : Heap) (locs1 : List Loc), va_P (dC, dI) vwCl (cW cB cI cJ cZ cS cO b cs9 ++ mW cB cI cJ cZ h0 a rs9) H1 → va_D A (cW cB cI cJ cZ cS cO b cs9 ++ mW cB cI cJ cZ h0 a rs9) → va_S A s.heap H1 locs1 → H1.size = b + kK cs9 → W p l e room_1 s m #[Value.ref bb] below meth c H1 locs1 (kK cs9) (kM cs9) (lw_Z below #[Value.ref bb] s) (F0 m 750 ls [])) : W p l e room_1 s m #[Value.ref bb] below meth c H locs (kK cs) (kM cs) (lw_Z below #[Value.ref bb] s) (F0 m 628 ls []) := by
  obtain ⟨hx, hb, hr, hml, hown, hts, hX, hbl, hlocks, hgv⟩ := id C0
  unfold lk_16 at hf
  obtain ⟨u0, e0, hf⟩ := ob hf
  obtain ⟨r1, e1, hf⟩ := ob hf
  obtain ⟨r2, e2, hf⟩ := ob hf
  have hf : (if r1 = r2 then some (cs, rs) else none) = some (cs9, rs9) := hf
  by_cases hq : r1 = r2
  case neg => rw [if_neg hq] at hf; cases hf
  rw [if_pos hq] at hf
  cases hf
  have hcc : s.heap.size + kK cs = b + kK cs := by rw [hbe]
  refine lv_aload_n hx hb dL_law_628 rfl (lv_at hl 2 rfl) ?_
  refine lv_aload_n hx hb dL_law_629 rfl (lv_at hl 3 rfl) ?_
  refine lv_iload_n hx hb dL_law_630 rfl (lv_at hl 0 rfl) ?_
  refine lv_iconst (v := 1) hx hb dL_law_631 (by decide) ?_
  refine lv_iadd hx hb dL_law_632 ?_
  refine lv_topi (fun y_ ey_ => ?_)
  have ey_ : y_ = nI (i + 1) := ey_.trans (pk_add1 i 1)
  subst ey_
  refine va_sld hx hb hX hbl hbA hS (i := i + 1) (vp_in_nI (n := i + 1) (N := L) (by omega) (by omega)) dL_law_633 ?_
  refine lv_topi (fun y_ ey_ => ?_)
  have ey_ : y_ = xs (i + 1) := ey_.trans (congrArg xs (nI_clamp (n := i + 1) (by omega)))
  subst ey_
  refine lv_aload_n hx hb dL_law_634 rfl (lv_at hl 3 rfl) ?_
  refine lv_iload_n hx hb dL_law_635 rfl (lv_at hl 0 rfl) ?_
  refine lv_iconst (v := 2) hx hb dL_law_636 (by decide) ?_
  refine lv_iadd hx hb dL_law_637 ?_
  refine lv_topi (fun y_ ey_ => ?_)
  have ey_ : y_ = nI (i + 2) := ey_.trans (pk_add1 i 2)
  subst ey_
  refine va_sld hx hb hX hbl hbA hS (i := i + 2) (vp_in_nI (n := i + 2) (N := L) (by omega) (by omega)) dL_law_638 ?_
  refine lv_topi (fun y_ ey_ => ?_)
  have ey_ : y_ = xs (i + 2) := ey_.trans (congrArg xs (nI_clamp (n := i + 2) (by omega)))
  subst ey_
  refine jbI (nL := 4) (As := [.int (xs (i + 1)), .int (xs (i + 2))]) (rest := []) (X := 12) (i := 0) (wf := mW cB cI cJ cZ h0 a rs) hx hb hml hts hown hK hP hD hS hA hz hcc hZ (by decide) rfl (ckE_some e0) (sc_X11_isNull l dC dI cB cI cJ cZ cS cO b K V fz F cs 0 (xs (i + 1)) (xs (i + 2)) r1 e1) (cwV 2 hts (gd_law (in_V kw_1647 kw_1648 kw_1649 kw_181 kc_X11_isNull)) rfl rfl rfl (by decide +kernel) ⟨Nat.le_of_ble_eq_true rfl, Nat.le_of_ble_eq_true rfl⟩) rfl hl.1 (Nat.le_of_ble_eq_true rfl) ⟨by show kK cs ≤ 600000; omega, by show kM cs ≤ 7302250; omega⟩ dL_law_639 (fun H1 locs1 hP1 hD1 hS1 hz1 => ?_)
  refine lv_aload_n hx hb dL_law_642 rfl (lv_at hl 1 rfl) ?_
  refine lv_aload_n hx hb dL_law_643 rfl (lv_at hl 3 rfl) ?_
  refine lv_iload_n hx hb dL_law_644 rfl (lv_at hl 0 rfl) ?_
  refine lv_iconst (v := 1) hx hb dL_law_645 (by decide) ?_
  refine lv_iadd hx hb dL_law_646 ?_
  refine lv_topi (fun y_ ey_ => ?_)
  have ey_ : y_ = nI (i + 1) := ey_.trans (pk_add1 i 1)
  subst ey_
  refine va_sld hx hb hX hbl hbA hS1 (i := i + 1) (vp_in_nI (n := i + 1) (N := L) (by omega) (by omega)) dL_law_647 ?_
  refine lv_topi (fun y_ ey_ => ?_)
  have ey_ : y_ = xs (i + 1) := ey_.trans (congrArg xs (nI_clamp (n := i + 1) (by omega)))
  subst ey_
  refine lv_aload_n hx hb dL_law_648 rfl (lv_at hl 3 rfl) ?_
  refine lv_iload_n hx hb dL_law_649 rfl (lv_at hl 0 rfl) ?_
  refine lv_iconst (v := 2) hx hb dL_law_650 (by decide) ?_
  refine lv_iadd hx hb dL_law_651 ?_
  refine lv_topi (fun y_ ey_ => ?_)
  have ey_ : y_ = nI (i + 2) := ey_.trans (pk_add1 i 2)
  subst ey_
  refine va_sld hx hb hX hbl hbA hS1 (i := i + 2) (vp_in_nI (n := i + 2) (N := L) (by omega) (by omega)) dL_law_652 ?_
  refine lv_topi (fun y_ ey_ => ?_)
  have ey_ : y_ = xs (i + 2) := ey_.trans (congrArg xs (nI_clamp (n := i + 2) (by omega)))
  subst ey_
  refine jmI (nL := 4) (As := [.int (xs (i + 1)), .int (xs (i + 2))]) (rest := [.int r1]) (wf := cW cB cI cJ cZ cS cO b cs) hx hb hml hts hown hK (va_P_sw hP1) (va_D_sw hD1) hS1 hA (by rw [hz1, hbe]) hZ (s_isNull l dC dI cB cI cJ cZ h0 a K V fz F rs (xs (i + 1)) (xs (i + 2)) r2 e2) (cwV 2 hts (gd_law (in_V kw_2492 kw_2493 kw_2494 kw_191 kc_X12_isNull)) rfl rfl rfl (by decide +kernel) ⟨Nat.le_of_ble_eq_true rfl, Nat.le_of_ble_eq_true rfl⟩) rfl hl.1 (Nat.le_of_ble_eq_true rfl) ⟨hR1, hR2⟩ dL_law_653 (fun H2 locs2 hP2 hD2 hS2 hz2 => ?_)
  refine lv_icmp_eq (tgt := 750) hx hb dL_law_656 (by decide) (fun c_ => ?_) (fun c_ => ?_)
  · exact kk H2 locs2 (va_P_sw hP2) (va_D_sw hD2) hS2 (hz2.trans hz1)
  · exact absurd hq c_
set_option maxRecDepth 100000 in
theorem ls_17 {p : Program} {l : Launch} {e : Env} {s : State} {m : MethodId} {below : List Frame} {meth : Method} {c : Code} {dC : Nat → ClassId} {dI : Nat → Nat → Nat} {cB cI cJ cZ cS cO : ClassId} {bb L : Nat} {xs : Nat → Int32} {K V : Nat → Nat} {fz : Value} {A : Nat → Prop} {b h0 : Nat} {a : Nat → Nat} (C0 : lw_At p s m meth c bb L xs) (hZ : zE K V fz A s) (hA : ∀ q : Nat, s.heap.size ≤ q → A q) (hbA : ¬ A bb) (hbe : s.heap.size = b) (hK : va_K (dC, dI) vwCl [(cB, .byte), (cI, .int), (cJ, .long), (cZ, .boolean), (cS, .object "StreamQueries$Source"), (cO, .object "java/lang/Object")] s) {F i : Nat} {cs cs9 : CS} {rs rs9 : RS} {H : Heap} {locs : List Loc} {ls : Array Slot} (hi : i + 6 ≤ L) (hL : L ≤ 384) (hP : va_P (dC, dI) vwCl (cW cB cI cJ cZ cS cO b cs ++ mW cB cI cJ cZ h0 a rs) H) (hD : va_D A (cW cB cI cJ cZ cS cO b cs ++ mW cB cI cJ cZ h0 a rs)) (hS : va_S A s.heap H locs) (hz : H.size = b + kK cs) (hf : lk_17 F cs rs (xs (i + 1)) (xs (i + 2)) (xs (i + 3)) (xs (i + 4)) (xs (i + 5)) = some (cs9, rs9)) (hR1 : kK cs9 ≤ 600000) (hR2 : kM cs9 ≤ 7302250) (hl : lv_has ls 4 [(3, .int (nI i)), (2, .ref h0), (1, .ref (b + 0)), (0, .ref bb)]) (kk : ∀ (H1 : Heap) (locs1 : List Loc), va_P (dC, dI) vwCl (cW cB cI cJ cZ cS cO b cs9 ++ mW cB cI cJ cZ h0 a rs9) H1 → va_D A (cW cB cI cJ cZ cS cO b cs9 ++ mW cB cI cJ cZ h0 a rs9) → va_S A s.heap H1 locs1 → H1.size = b + kK cs9 → W p l e room_1 s m #[Value.ref bb] below meth c H1 locs1 (kK cs9) (kM cs9) (lw_Z below #[Value.ref bb] s) (F0 m 750 ls [])) : W p l e room_1 s m #[Value.ref bb] below meth c H locs (kK cs) (kM cs) (lw_Z below #[Value.ref bb] s) (F0 m 661 ls []) := by
  obtain ⟨hx, hb, hr, hml, hown, hts, hX, hbl, hlocks, hgv⟩ := id C0
  unfold lk_17 at hf
  obtain ⟨u0, e0, hf⟩ := ob hf
  obtain ⟨r1, e1, hf⟩ := ob hf
  obtain ⟨r2, e2, hf⟩ := ob hf
  have hf : (if r1 = r2 then some (cs, rs) else none) = some (cs9, rs9) := hf
  by_cases hq : r1 = r2
  case neg => rw [if_neg hq] at hf; cases hf
  rw [if_pos hq] at hf
  cases hf
  have hcc : s.heap.size + kK cs = b + kK cs := by rw [hbe]
  refine lv_aload_n hx hb dL_law_661 rfl (lv_at hl 2 rfl) ?_
  refine lv_aload_n hx hb dL_law_662 rfl (lv_at hl 3 rfl) ?_
  refine lv_iload_n hx hb dL_law_663 rfl (lv_at hl 0 rfl) ?_
  refine lv_iconst (v := 1) hx hb dL_law_664 (by decide) ?_
  refine lv_iadd hx hb dL_law_665 ?_
  refine lv_topi (fun y_ ey_ => ?_)
  have ey_ : y_ = nI (i + 1) := ey_.trans (pk_add1 i 1)
  subst ey_
  refine va_sld hx hb hX hbl hbA hS (i := i + 1) (vp_in_nI (n := i + 1) (N := L) (by omega) (by omega)) dL_law_666 ?_
  refine lv_topi (fun y_ ey_ => ?_)
  have ey_ : y_ = xs (i + 1) := ey_.trans (congrArg xs (nI_clamp (n := i + 1) (by omega)))
  subst ey_
  refine jbI (nL := 4) (As := [.int (xs (i + 1))]) (rest := []) (X := 12) (i := 0) (wf := mW cB cI cJ cZ h0 a rs) hx hb hml hts hown hK hP hD hS hA hz hcc hZ (by decide) rfl (ckE_some e0) (sc_X11_type l dC dI cB cI cJ cZ cS cO b K V fz F cs 0 (xs (i + 1)) r1 e1) (cwV 1 hts (gd_law (in_V kw_1651 kw_1652 kw_1653 kw_181 kc_X11_type)) rfl rfl rfl (by decide +kernel) ⟨Nat.le_of_ble_eq_true rfl, Nat.le_of_ble_eq_true rfl⟩) rfl hl.1 (Nat.le_of_ble_eq_true rfl) ⟨by show kK cs ≤ 600000; omega, by show kM cs ≤ 7302250; omega⟩ dL_law_667 (fun H1 locs1 hP1 hD1 hS1 hz1 => ?_)
  refine lv_aload_n hx hb dL_law_670 rfl (lv_at hl 1 rfl) ?_
  refine lv_aload_n hx hb dL_law_671 rfl (lv_at hl 3 rfl) ?_
  refine lv_iload_n hx hb dL_law_672 rfl (lv_at hl 0 rfl) ?_
  refine lv_iconst (v := 1) hx hb dL_law_673 (by decide) ?_
  refine lv_iadd hx hb dL_law_674 ?_
  refine lv_topi (fun y_ ey_ => ?_)
  have ey_ : y_ = nI (i + 1) := ey_.trans (pk_add1 i 1)
  subst ey_
  refine va_sld hx hb hX hbl hbA hS1 (i := i + 1) (vp_in_nI (n := i + 1) (N := L) (by omega) (by omega)) dL_law_675 ?_
  refine lv_topi (fun y_ ey_ => ?_)
  have ey_ : y_ = xs (i + 1) := ey_.trans (congrArg xs (nI_clamp (n := i + 1) (by omega)))
  subst ey_
  refine jmI (nL := 4) (As := [.int (xs (i + 1))]) (rest := [.int r1]) (wf := cW cB cI cJ cZ cS cO b cs) hx hb hml hts hown hK (va_P_sw hP1) (va_D_sw hD1) hS1 hA (by rw [hz1, hbe]) hZ (s_type l dC dI cB cI cJ cZ h0 a K V fz F rs (xs (i + 1)) r2 e2) (cwV 1 hts (gd_law (in_V kw_2496 kw_2497 kw_2498 kw_191 kc_X12_type)) rfl rfl rfl (by decide +kernel) ⟨Nat.le_of_ble_eq_true rfl, Nat.le_of_ble_eq_true rfl⟩) rfl hl.1 (Nat.le_of_ble_eq_true rfl) ⟨hR1, hR2⟩ dL_law_676 (fun H2 locs2 hP2 hD2 hS2 hz2 => ?_)
  refine lv_icmp_eq (tgt := 750) hx hb dL_law_679 (by decide) (fun c_ => ?_) (fun c_ => ?_)
  · exact kk H2 locs2 (va_P_sw hP2) (va_D_sw hD2) hS2 (hz2.trans hz1)
  · exact absurd hq c_
set_option maxRecDepth 100000 in
theorem ls_18 {p : Program} {l : Launch} {e : Env} {s : State} {m : MethodId} {below : List Frame} {meth : Method} {c : Code} {dC : Nat → ClassId} {dI : Nat → Nat → Nat} {cB cI cJ cZ cS cO : ClassId} {bb L : Nat} {xs : Nat → Int32} {K V : Nat → Nat} {fz : Value} {A : Nat → Prop} {b h0 : Nat} {a : Nat → Nat} (C0 : lw_At p s m meth c bb L xs) (hZ : zE K V fz A s) (hA : ∀ q : Nat, s.heap.size ≤ q → A q) (hbA : ¬ A bb) (hbe : s.heap.size = b) (hK : va_K (dC, dI) vwCl [(cB, .byte), (cI, .int), (cJ, .long), (cZ, .boolean), (cS, .object "StreamQueries$Source"), (cO, .object "java/lang/Object")] s) {F i : Nat} {cs cs9 : CS} {rs rs9 : RS} {H : Heap} {locs : List Loc} {ls : Array Slot} (hi : i + 6 ≤ L) (hL : L ≤ 384) (hP : va_P (dC, dI) vwCl (cW cB cI cJ cZ cS cO b cs ++ mW cB cI cJ cZ h0 a rs) H) (hD : va_D A (cW cB cI cJ cZ cS cO b cs ++ mW cB cI cJ cZ h0 a rs)) (hS : va_S A s.heap H locs) (hz : H.size = b + kK cs) (hf : lk_18 F cs rs (xs (i + 1)) (xs (i + 2)) (xs (i + 3)) (xs (i + 4)) (xs (i + 5)) = some (cs9, rs9)) (hR1 : kK cs9 ≤ 600000) (hR2 : kM cs9 ≤ 7302250) (hl : lv_has ls 4 [(3, .int (nI i)), (2, .ref h0), (1, .ref (b + 0)), (0, .ref bb)]) (kk : ∀ (H1 : Heap) (locs1 : List Loc), va_P (dC, dI) vwCl (cW cB cI cJ cZ cS cO b cs9 ++ mW cB cI cJ cZ h0 a rs9) H1 → va_D A (cW cB cI cJ cZ cS cO b cs9 ++ mW cB cI cJ cZ h0 a rs9) → va_S A s.heap H1 locs1 → H1.size = b + kK cs9 → W p l e room_1 s m #[Value.ref bb] below meth c H1 locs1 (kK cs9) (kM cs9) (lw_Z below #[Value.ref bb] s) (F0 m 750 ls [])) : W p l e room_1 s m #[Value.ref bb] below meth c H locs (kK cs) (kM cs) (lw_Z below #[Value.ref bb] s) (F0 m 684 ls []) := by
  obtain ⟨hx, hb, hr, hml, hown, hts, hX, hbl, hlocks, hgv⟩ := id C0
  unfold lk_18 at hf
  obtain ⟨u0, e0, hf⟩ := ob hf
  obtain ⟨⟨cs1, r1⟩, e1, hf⟩ := ob hf
  obtain ⟨r2, e2, hf⟩ := ob hf
  have hf : (if r1 = r2 then some (cs1, rs) else none) = some (cs9, rs9) := hf
  by_cases hq : r1 = r2
  case neg => rw [if_neg hq] at hf; cases hf
  rw [if_pos hq] at hf
  cases hf
  have hmo0 := mo_c_X11_three F cs 0 (xs (i + 1)) (xs (i + 2)) (xs (i + 3)) cs1 r1 e1
  have hmo : kK cs1 = kK cs := congrArg Prod.fst hmo0
  have hmo2 : kM cs1 = kM cs := congrArg (fun z => z.2.1) hmo0
  have hcc : s.heap.size + kK cs = b + kK cs := by rw [hbe]
  refine lv_aload_n hx hb dL_law_684 rfl (lv_at hl 2 rfl) ?_
  refine lv_aload_n hx hb dL_law_685 rfl (lv_at hl 3 rfl) ?_
  refine lv_iload_n hx hb dL_law_686 rfl (lv_at hl 0 rfl) ?_
  refine lv_iconst (v := 1) hx hb dL_law_687 (by decide) ?_
  refine lv_iadd hx hb dL_law_688 ?_
  refine lv_topi (fun y_ ey_ => ?_)
  have ey_ : y_ = nI (i + 1) := ey_.trans (pk_add1 i 1)
  subst ey_
  refine va_sld hx hb hX hbl hbA hS (i := i + 1) (vp_in_nI (n := i + 1) (N := L) (by omega) (by omega)) dL_law_689 ?_
  refine lv_topi (fun y_ ey_ => ?_)
  have ey_ : y_ = xs (i + 1) := ey_.trans (congrArg xs (nI_clamp (n := i + 1) (by omega)))
  subst ey_
  refine lv_aload_n hx hb dL_law_690 rfl (lv_at hl 3 rfl) ?_
  refine lv_iload_n hx hb dL_law_691 rfl (lv_at hl 0 rfl) ?_
  refine lv_iconst (v := 2) hx hb dL_law_692 (by decide) ?_
  refine lv_iadd hx hb dL_law_693 ?_
  refine lv_topi (fun y_ ey_ => ?_)
  have ey_ : y_ = nI (i + 2) := ey_.trans (pk_add1 i 2)
  subst ey_
  refine va_sld hx hb hX hbl hbA hS (i := i + 2) (vp_in_nI (n := i + 2) (N := L) (by omega) (by omega)) dL_law_694 ?_
  refine lv_topi (fun y_ ey_ => ?_)
  have ey_ : y_ = xs (i + 2) := ey_.trans (congrArg xs (nI_clamp (n := i + 2) (by omega)))
  subst ey_
  refine lv_aload_n hx hb dL_law_695 rfl (lv_at hl 3 rfl) ?_
  refine lv_iload_n hx hb dL_law_696 rfl (lv_at hl 0 rfl) ?_
  refine lv_iconst (v := 3) hx hb dL_law_697 (by decide) ?_
  refine lv_iadd hx hb dL_law_698 ?_
  refine lv_topi (fun y_ ey_ => ?_)
  have ey_ : y_ = nI (i + 3) := ey_.trans (pk_add1 i 3)
  subst ey_
  refine va_sld hx hb hX hbl hbA hS (i := i + 3) (vp_in_nI (n := i + 3) (N := L) (by omega) (by omega)) dL_law_699 ?_
  refine lv_topi (fun y_ ey_ => ?_)
  have ey_ : y_ = xs (i + 3) := ey_.trans (congrArg xs (nI_clamp (n := i + 3) (by omega)))
  subst ey_
  refine jbI (nL := 4) (As := [.int (xs (i + 1)), .int (xs (i + 2)), .int (xs (i + 3))]) (rest := []) (X := 12) (i := 0) (wf := mW cB cI cJ cZ h0 a rs) hx hb hml hts hown hK hP hD hS hA hz hcc hZ (by decide) rfl (ckE_some e0) (sc_X11_three l dC dI cB cI cJ cZ cS cO b K V fz F cs 0 (xs (i + 1)) (xs (i + 2)) (xs (i + 3)) cs1 r1 e1) (cwV 3 hts (gd_law (in_V kw_1660 kw_1661 kw_1662 kw_181 kc_X11_three)) rfl rfl rfl (by decide +kernel) ⟨Nat.le_of_ble_eq_true rfl, Nat.le_of_ble_eq_true rfl⟩) rfl hl.1 (Nat.le_of_ble_eq_true rfl) ⟨by show kK cs ≤ 600000; omega, by show kM cs ≤ 7302250; omega⟩ dL_law_700 (fun H1 locs1 hP1 hD1 hS1 hz1 => ?_)
  rw [← hmo] at hz1
  rw [← hmo, ← hmo2]
  refine lv_aload_n hx hb dL_law_703 rfl (lv_at hl 1 rfl) ?_
  refine lv_aload_n hx hb dL_law_704 rfl (lv_at hl 3 rfl) ?_
  refine lv_iload_n hx hb dL_law_705 rfl (lv_at hl 0 rfl) ?_
  refine lv_iconst (v := 1) hx hb dL_law_706 (by decide) ?_
  refine lv_iadd hx hb dL_law_707 ?_
  refine lv_topi (fun y_ ey_ => ?_)
  have ey_ : y_ = nI (i + 1) := ey_.trans (pk_add1 i 1)
  subst ey_
  refine va_sld hx hb hX hbl hbA hS1 (i := i + 1) (vp_in_nI (n := i + 1) (N := L) (by omega) (by omega)) dL_law_708 ?_
  refine lv_topi (fun y_ ey_ => ?_)
  have ey_ : y_ = xs (i + 1) := ey_.trans (congrArg xs (nI_clamp (n := i + 1) (by omega)))
  subst ey_
  refine lv_aload_n hx hb dL_law_709 rfl (lv_at hl 3 rfl) ?_
  refine lv_iload_n hx hb dL_law_710 rfl (lv_at hl 0 rfl) ?_
  refine lv_iconst (v := 2) hx hb dL_law_711 (by decide) ?_
  refine lv_iadd hx hb dL_law_712 ?_
  refine lv_topi (fun y_ ey_ => ?_)
  have ey_ : y_ = nI (i + 2) := ey_.trans (pk_add1 i 2)
  subst ey_
  refine va_sld hx hb hX hbl hbA hS1 (i := i + 2) (vp_in_nI (n := i + 2) (N := L) (by omega) (by omega)) dL_law_713 ?_
  refine lv_topi (fun y_ ey_ => ?_)
  have ey_ : y_ = xs (i + 2) := ey_.trans (congrArg xs (nI_clamp (n := i + 2) (by omega)))
  subst ey_
  refine lv_aload_n hx hb dL_law_714 rfl (lv_at hl 3 rfl) ?_
  refine lv_iload_n hx hb dL_law_715 rfl (lv_at hl 0 rfl) ?_
  refine lv_iconst (v := 3) hx hb dL_law_716 (by decide) ?_
  refine lv_iadd hx hb dL_law_717 ?_
  refine lv_topi (fun y_ ey_ => ?_)
  have ey_ : y_ = nI (i + 3) := ey_.trans (pk_add1 i 3)
  subst ey_
  refine va_sld hx hb hX hbl hbA hS1 (i := i + 3) (vp_in_nI (n := i + 3) (N := L) (by omega) (by omega)) dL_law_718 ?_
  refine lv_topi (fun y_ ey_ => ?_)
  have ey_ : y_ = xs (i + 3) := ey_.trans (congrArg xs (nI_clamp (n := i + 3) (by omega)))
  subst ey_
  refine jmI (nL := 4) (As := [.int (xs (i + 1)), .int (xs (i + 2)), .int (xs (i + 3))]) (rest := [.int r1]) (wf := cW cB cI cJ cZ cS cO b cs1) hx hb hml hts hown hK (va_P_sw hP1) (va_D_sw hD1) hS1 hA (by rw [hz1, hbe]) hZ (s_three l dC dI cB cI cJ cZ h0 a K V fz F rs (xs (i + 1)) (xs (i + 2)) (xs (i + 3)) r2 e2) (cwV 3 hts (gd_law (in_V kw_2500 kw_2501 kw_2502 kw_191 kc_X12_three)) rfl rfl rfl (by decide +kernel) ⟨Nat.le_of_ble_eq_true rfl, Nat.le_of_ble_eq_true rfl⟩) rfl hl.1 (Nat.le_of_ble_eq_true rfl) ⟨hR1, hR2⟩ dL_law_719 (fun H2 locs2 hP2 hD2 hS2 hz2 => ?_)
  refine lv_icmp_eq (tgt := 750) hx hb dL_law_722 (by decide) (fun c_ => ?_) (fun c_ => ?_)
  · exact kk H2 locs2 (va_P_sw hP2) (va_D_sw hD2) hS2 (hz2.trans hz1)
  · exact absurd hq c_
set_option maxRecDepth 100000 in
theorem ls_19 {p : Program} {l : Launch} {e : Env} {s : State} {m : MethodId} {below : List Frame} {meth : Method} {c : Code} {dC : Nat → ClassId} {dI : Nat → Nat → Nat} {cB cI cJ cZ cS cO : ClassId} {bb L : Nat} {xs : Nat → Int32} {K V : Nat → Nat} {fz : Value} {A : Nat → Prop} {b h0 : Nat} {a : Nat → Nat} (C0 : lw_At p s m meth c bb L xs) (hZ : zE K V fz A s) (hA : ∀ q : Nat, s.heap.size ≤ q → A q) (hbA : ¬ A bb) (hbe : s.heap.size = b) (hK : va_K (dC, dI) vwCl [(cB, .byte), (cI, .int), (cJ, .long), (cZ, .boolean), (cS, .object "StreamQueries$Source"), (cO, .object "java/lang/Object")] s) {F i : Nat} {cs cs9 : CS} {rs rs9 : RS} {H : Heap} {locs : List Loc} {ls : Array Slot} (hi : i + 6 ≤ L) (hL : L ≤ 384) (hP : va_P (dC, dI) vwCl (cW cB cI cJ cZ cS cO b cs ++ mW cB cI cJ cZ h0 a rs) H) (hD : va_D A (cW cB cI cJ cZ cS cO b cs ++ mW cB cI cJ cZ h0 a rs)) (hS : va_S A s.heap H locs) (hz : H.size = b + kK cs) (hf : lk_19 F cs rs (xs (i + 1)) (xs (i + 2)) (xs (i + 3)) (xs (i + 4)) (xs (i + 5)) = some (cs9, rs9)) (hR1 : kK cs9 ≤ 600000) (hR2 : kM cs9 ≤ 7302250) (hl : lv_has ls 4 [(3, .int (nI i)), (2, .ref h0), (1, .ref (b + 0)), (0, .ref bb)]) (kk : ∀ (H1 : Heap) (locs1 : List Loc), va_P (dC, dI) vwCl (cW cB cI cJ cZ cS cO b cs9 ++ mW cB cI cJ cZ h0 a rs9) H1 → va_D A (cW cB cI cJ cZ cS cO b cs9 ++ mW cB cI cJ cZ h0 a rs9) → va_S A s.heap H1 locs1 → H1.size = b + kK cs9 → W p l e room_1 s m #[Value.ref bb] below meth c H1 locs1 (kK cs9) (kM cs9) (lw_Z below #[Value.ref bb] s) (F0 m 750 ls [])) : W p l e room_1 s m #[Value.ref bb] below meth c H locs (kK cs) (kM cs) (lw_Z below #[Value.ref bb] s) (F0 m 727 ls []) := by
  obtain ⟨hx, hb, hr, hml, hown, hts, hX, hbl, hlocks, hgv⟩ := id C0
  unfold lk_19 at hf
  obtain ⟨u0, e0, hf⟩ := ob hf
  obtain ⟨r1, e1, hf⟩ := ob hf
  obtain ⟨r2, e2, hf⟩ := ob hf
  have hf : (if r1 = r2 then some (cs, rs) else none) = some (cs9, rs9) := hf
  by_cases hq : r1 = r2
  case neg => rw [if_neg hq] at hf; cases hf
  rw [if_pos hq] at hf
  cases hf
  have hcc : s.heap.size + kK cs = b + kK cs := by rw [hbe]
  refine lv_aload_n hx hb dL_law_727 rfl (lv_at hl 2 rfl) ?_
  refine lv_aload_n hx hb dL_law_728 rfl (lv_at hl 3 rfl) ?_
  refine lv_iload_n hx hb dL_law_729 rfl (lv_at hl 0 rfl) ?_
  refine lv_iconst (v := 1) hx hb dL_law_730 (by decide) ?_
  refine lv_iadd hx hb dL_law_731 ?_
  refine lv_topi (fun y_ ey_ => ?_)
  have ey_ : y_ = nI (i + 1) := ey_.trans (pk_add1 i 1)
  subst ey_
  refine va_sld hx hb hX hbl hbA hS (i := i + 1) (vp_in_nI (n := i + 1) (N := L) (by omega) (by omega)) dL_law_732 ?_
  refine lv_topi (fun y_ ey_ => ?_)
  have ey_ : y_ = xs (i + 1) := ey_.trans (congrArg xs (nI_clamp (n := i + 1) (by omega)))
  subst ey_
  refine jbI (nL := 4) (As := [.int (xs (i + 1))]) (rest := []) (X := 12) (i := 0) (wf := mW cB cI cJ cZ h0 a rs) hx hb hml hts hown hK hP hD hS hA hz hcc hZ (by decide) rfl (ckE_some e0) (sc_X11_told l dC dI cB cI cJ cZ cS cO b K V fz F cs 0 (xs (i + 1)) r1 e1) (cwV 1 hts (gd_law (in_V kw_1670 kw_1671 kw_1672 kw_181 kc_X11_told)) rfl rfl rfl (by decide +kernel) ⟨Nat.le_of_ble_eq_true rfl, Nat.le_of_ble_eq_true rfl⟩) rfl hl.1 (Nat.le_of_ble_eq_true rfl) ⟨by show kK cs ≤ 600000; omega, by show kM cs ≤ 7302250; omega⟩ dL_law_733 (fun H1 locs1 hP1 hD1 hS1 hz1 => ?_)
  refine lv_aload_n hx hb dL_law_736 rfl (lv_at hl 1 rfl) ?_
  refine lv_aload_n hx hb dL_law_737 rfl (lv_at hl 3 rfl) ?_
  refine lv_iload_n hx hb dL_law_738 rfl (lv_at hl 0 rfl) ?_
  refine lv_iconst (v := 1) hx hb dL_law_739 (by decide) ?_
  refine lv_iadd hx hb dL_law_740 ?_
  refine lv_topi (fun y_ ey_ => ?_)
  have ey_ : y_ = nI (i + 1) := ey_.trans (pk_add1 i 1)
  subst ey_
  refine va_sld hx hb hX hbl hbA hS1 (i := i + 1) (vp_in_nI (n := i + 1) (N := L) (by omega) (by omega)) dL_law_741 ?_
  refine lv_topi (fun y_ ey_ => ?_)
  have ey_ : y_ = xs (i + 1) := ey_.trans (congrArg xs (nI_clamp (n := i + 1) (by omega)))
  subst ey_
  refine jmI (nL := 4) (As := [.int (xs (i + 1))]) (rest := [.int r1]) (wf := cW cB cI cJ cZ cS cO b cs) hx hb hml hts hown hK (va_P_sw hP1) (va_D_sw hD1) hS1 hA (by rw [hz1, hbe]) hZ (s_told l dC dI cB cI cJ cZ h0 a K V fz F rs (xs (i + 1)) r2 e2) (cwV 1 hts (gd_law (in_V kw_2504 kw_2505 kw_2506 kw_191 kc_X12_told)) rfl rfl rfl (by decide +kernel) ⟨Nat.le_of_ble_eq_true rfl, Nat.le_of_ble_eq_true rfl⟩) rfl hl.1 (Nat.le_of_ble_eq_true rfl) ⟨hR1, hR2⟩ dL_law_742 (fun H2 locs2 hP2 hD2 hS2 hz2 => ?_)
  refine lv_icmp_eq (tgt := 750) hx hb dL_law_745 (by decide) (fun c_ => ?_) (fun c_ => ?_)
  · exact kk H2 locs2 (va_P_sw hP2) (va_D_sw hD2) hS2 (hz2.trans hz1)
  · exact absurd hq c_
