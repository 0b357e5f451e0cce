theorem cl6 (x : Int32) : x = 0 ∨ x = 1 ∨ x = 2 ∨ x = 3 ∨ x = 4 ∨ x = 5 ∨ (x.toInt < 0 ∨ 5 < x.toInt) := by
  have e : ∀ (n : Int32), x.toInt = n.toInt → x = n := fun n h => Int32.toInt_inj.mp h
  by_cases h : x.toInt < 0 ∨ 5 < x.toInt
  · exact Or.inr (Or.inr (Or.inr (Or.inr (Or.inr (Or.inr h)))))
  · have h2 : x.toInt = 0 ∨ x.toInt = 1 ∨ x.toInt = 2 ∨ x.toInt = 3 ∨ x.toInt = 4 ∨ x.toInt = 5 := by omega
    rcases h2 with h2 | h2 | h2 | h2 | h2 | h2
    · exact Or.inl (e 0 h2)
    · exact Or.inr (Or.inl (e 1 h2))
    · exact Or.inr (Or.inr (Or.inl (e 2 h2)))
    · exact Or.inr (Or.inr (Or.inr (Or.inl (e 3 h2))))
    · exact Or.inr (Or.inr (Or.inr (Or.inr (Or.inl (e 4 h2)))))
    · exact Or.inr (Or.inr (Or.inr (Or.inr (Or.inr (Or.inl (e 5 h2))))))
theorem th_o {x : Int32} (h : x.toInt < 0 ∨ 5 < x.toInt) : x < 0 ∨ ¬ x ≤ 5 := by
  rcases h with h | h
  · exact Or.inl (Int32.lt_iff_toInt_lt.mpr (by simpa using h))
  · refine Or.inr (fun h2 => ?_)
    have h3 := Int32.le_iff_toInt_le.mp h2
    have h4 : x.toInt ≤ 5 := by simpa using h3
    omega
theorem lt_or_0 (x : Int32) : x < 0 ∨ nI 0 ≤ x := by
  by_cases h : x < 0
  · exact Or.inl h
  · exact Or.inr (Int32.not_lt.mp h)
theorem kiF_00 (tk : Nat → Int64) : kiF (fun _ => 0) 0 tk 0 = 56 := rfl
theorem plF_00 (tk : Nat → Int64) : plF (fun _ => 0) 0 tk 0 = 0 := rfl
theorem dL_law_0 : decode code 0 = .ok (.new 7, 3) := by decide +kernel
theorem dL_law_3 : decode code 3 = .ok (.dup, 1) := by decide +kernel
theorem dL_law_4 : decode code 4 = .ok (.invokespecial 9, 3) := by decide +kernel
theorem dL_law_7 : decode code 7 = .ok (.astore_n 1, 1) := by decide +kernel
theorem dL_law_8 : decode code 8 = .ok (.new 10, 3) := by decide +kernel
theorem dL_law_11 : decode code 11 = .ok (.dup, 1) := by decide +kernel
theorem dL_law_12 : decode code 12 = .ok (.invokespecial 12, 3) := by decide +kernel
theorem dL_law_15 : decode code 15 = .ok (.astore_n 2, 1) := by decide +kernel
theorem dL_law_16 : decode code 16 = .ok (.iconst 0, 1) := by decide +kernel
theorem dL_law_17 : decode code 17 = .ok (.istore_n 3, 1) := by decide +kernel
theorem dL_law_18 : decode code 18 = .ok (.iload_n 3, 1) := by decide +kernel
theorem dL_law_19 : decode code 19 = .ok (.aload_n 0, 1) := by decide +kernel
theorem dL_law_20 : decode code 20 = .ok (.arraylength, 1) := by decide +kernel
theorem dL_law_21 : decode code 21 = .ok (.bipush 6, 2) := by decide +kernel
theorem dL_law_23 : decode code 23 = .ok (.isub, 1) := by decide +kernel
theorem dL_law_24 : decode code 24 = .ok (.if_icmp .gt 732, 3) := by decide +kernel
theorem dL_law_27 : decode code 27 = .ok (.aload_n 0, 1) := by decide +kernel
theorem dL_law_28 : decode code 28 = .ok (.iload_n 3, 1) := by decide +kernel
theorem dL_law_29 : decode code 29 = .ok (.iaload, 1) := by decide +kernel
theorem dL_law_30 : decode code 30 = .ok (.bipush 31, 2) := by decide +kernel
theorem dL_law_32 : decode code 32 = .ok (.iand, 1) := by decide +kernel
theorem dL_law_33 : decode code 33 = .ok (.tableswitch 717 0 19 #[95, 158, 181, 204, 217, 230, 283, 296, 359, 392, 445, 458, 481, 515, 548, 561, 595, 628, 651, 694], 95) := by decide +kernel
theorem dL_law_128 : decode code 128 = .ok (.aload_n 1, 1) := by decide +kernel
theorem dL_law_129 : decode code 129 = .ok (.aload_n 0, 1) := by decide +kernel
theorem dL_law_130 : decode code 130 = .ok (.iload_n 3, 1) := by decide +kernel
theorem dL_law_131 : decode code 131 = .ok (.iconst 1, 1) := by decide +kernel
theorem dL_law_132 : decode code 132 = .ok (.iadd, 1) := by decide +kernel
theorem dL_law_133 : decode code 133 = .ok (.iaload, 1) := by decide +kernel
theorem dL_law_134 : decode code 134 = .ok (.aload_n 0, 1) := by decide +kernel
theorem dL_law_135 : decode code 135 = .ok (.iload_n 3, 1) := by decide +kernel
theorem dL_law_136 : decode code 136 = .ok (.iconst 2, 1) := by decide +kernel
theorem dL_law_137 : decode code 137 = .ok (.iadd, 1) := by decide +kernel
theorem dL_law_138 : decode code 138 = .ok (.iaload, 1) := by decide +kernel
theorem dL_law_139 : decode code 139 = .ok (.aload_n 0, 1) := by decide +kernel
theorem dL_law_140 : decode code 140 = .ok (.iload_n 3, 1) := by decide +kernel
theorem dL_law_141 : decode code 141 = .ok (.iconst 3, 1) := by decide +kernel
theorem dL_law_142 : decode code 142 = .ok (.iadd, 1) := by decide +kernel
theorem dL_law_143 : decode code 143 = .ok (.iaload, 1) := by decide +kernel
theorem dL_law_144 : decode code 144 = .ok (.aload_n 0, 1) := by decide +kernel
theorem dL_law_145 : decode code 145 = .ok (.iload_n 3, 1) := by decide +kernel
theorem dL_law_146 : decode code 146 = .ok (.iconst 4, 1) := by decide +kernel
theorem dL_law_147 : decode code 147 = .ok (.iadd, 1) := by decide +kernel
theorem dL_law_148 : decode code 148 = .ok (.iaload, 1) := by decide +kernel
theorem dL_law_149 : decode code 149 = .ok (.aload_n 0, 1) := by decide +kernel
theorem dL_law_150 : decode code 150 = .ok (.iload_n 3, 1) := by decide +kernel
theorem dL_law_151 : decode code 151 = .ok (.iconst 5, 1) := by decide +kernel
theorem dL_law_152 : decode code 152 = .ok (.iadd, 1) := by decide +kernel
theorem dL_law_153 : decode code 153 = .ok (.iaload, 1) := by decide +kernel
theorem dL_law_154 : decode code 154 = .ok (.invokevirtual 13, 3) := by decide +kernel
theorem dL_law_157 : decode code 157 = .ok (.aload_n 2, 1) := by decide +kernel
theorem dL_law_158 : decode code 158 = .ok (.aload_n 0, 1) := by decide +kernel
theorem dL_law_159 : decode code 159 = .ok (.iload_n 3, 1) := by decide +kernel
theorem dL_law_160 : decode code 160 = .ok (.iconst 1, 1) := by decide +kernel
theorem dL_law_161 : decode code 161 = .ok (.iadd, 1) := by decide +kernel
theorem dL_law_162 : decode code 162 = .ok (.iaload, 1) := by decide +kernel
theorem dL_law_163 : decode code 163 = .ok (.aload_n 0, 1) := by decide +kernel
theorem dL_law_164 : decode code 164 = .ok (.iload_n 3, 1) := by decide +kernel
theorem dL_law_165 : decode code 165 = .ok (.iconst 2, 1) := by decide +kernel
theorem dL_law_166 : decode code 166 = .ok (.iadd, 1) := by decide +kernel
theorem dL_law_167 : decode code 167 = .ok (.iaload, 1) := by decide +kernel
theorem dL_law_168 : decode code 168 = .ok (.aload_n 0, 1) := by decide +kernel
theorem dL_law_169 : decode code 169 = .ok (.iload_n 3, 1) := by decide +kernel
theorem dL_law_170 : decode code 170 = .ok (.iconst 3, 1) := by decide +kernel
theorem dL_law_171 : decode code 171 = .ok (.iadd, 1) := by decide +kernel
theorem dL_law_172 : decode code 172 = .ok (.iaload, 1) := by decide +kernel
theorem dL_law_173 : decode code 173 = .ok (.aload_n 0, 1) := by decide +kernel
theorem dL_law_174 : decode code 174 = .ok (.iload_n 3, 1) := by decide +kernel
theorem dL_law_175 : decode code 175 = .ok (.iconst 4, 1) := by decide +kernel
theorem dL_law_176 : decode code 176 = .ok (.iadd, 1) := by decide +kernel
theorem dL_law_177 : decode code 177 = .ok (.iaload, 1) := by decide +kernel
theorem dL_law_178 : decode code 178 = .ok (.aload_n 0, 1) := by decide +kernel
theorem dL_law_179 : decode code 179 = .ok (.iload_n 3, 1) := by decide +kernel
theorem dL_law_180 : decode code 180 = .ok (.iconst 5, 1) := by decide +kernel
theorem dL_law_181 : decode code 181 = .ok (.iadd, 1) := by decide +kernel
theorem dL_law_182 : decode code 182 = .ok (.iaload, 1) := by decide +kernel
theorem dL_law_183 : decode code 183 = .ok (.invokevirtual 17, 3) := by decide +kernel
theorem dL_law_186 : decode code 186 = .ok (.if_icmp .eq 564, 3) := by decide +kernel
theorem dL_law_191 : decode code 191 = .ok (.aload_n 1, 1) := by decide +kernel
theorem dL_law_192 : decode code 192 = .ok (.aload_n 0, 1) := by decide +kernel
theorem dL_law_193 : decode code 193 = .ok (.iload_n 3, 1) := by decide +kernel
theorem dL_law_194 : decode code 194 = .ok (.iconst 1, 1) := by decide +kernel
theorem dL_law_195 : decode code 195 = .ok (.iadd, 1) := by decide +kernel
theorem dL_law_196 : decode code 196 = .ok (.iaload, 1) := by decide +kernel
theorem dL_law_197 : decode code 197 = .ok (.invokevirtual 18, 3) := by decide +kernel
theorem dL_law_200 : decode code 200 = .ok (.aload_n 2, 1) := by decide +kernel
theorem dL_law_201 : decode code 201 = .ok (.aload_n 0, 1) := by decide +kernel
theorem dL_law_202 : decode code 202 = .ok (.iload_n 3, 1) := by decide +kernel
theorem dL_law_203 : decode code 203 = .ok (.iconst 1, 1) := by decide +kernel
theorem dL_law_204 : decode code 204 = .ok (.iadd, 1) := by decide +kernel
theorem dL_law_205 : decode code 205 = .ok (.iaload, 1) := by decide +kernel
theorem dL_law_206 : decode code 206 = .ok (.invokevirtual 22, 3) := by decide +kernel
theorem dL_law_209 : decode code 209 = .ok (.if_icmp .eq 541, 3) := by decide +kernel
theorem dL_law_214 : decode code 214 = .ok (.aload_n 1, 1) := by decide +kernel
theorem dL_law_215 : decode code 215 = .ok (.aload_n 0, 1) := by decide +kernel
theorem dL_law_216 : decode code 216 = .ok (.iload_n 3, 1) := by decide +kernel
theorem dL_law_217 : decode code 217 = .ok (.iconst 1, 1) := by decide +kernel
theorem dL_law_218 : decode code 218 = .ok (.iadd, 1) := by decide +kernel
theorem dL_law_219 : decode code 219 = .ok (.iaload, 1) := by decide +kernel
theorem dL_law_220 : decode code 220 = .ok (.invokevirtual 23, 3) := by decide +kernel
theorem dL_law_223 : decode code 223 = .ok (.aload_n 2, 1) := by decide +kernel
theorem dL_law_224 : decode code 224 = .ok (.aload_n 0, 1) := by decide +kernel
theorem dL_law_225 : decode code 225 = .ok (.iload_n 3, 1) := by decide +kernel
theorem dL_law_226 : decode code 226 = .ok (.iconst 1, 1) := by decide +kernel
theorem dL_law_227 : decode code 227 = .ok (.iadd, 1) := by decide +kernel
theorem dL_law_228 : decode code 228 = .ok (.iaload, 1) := by decide +kernel
theorem dL_law_229 : decode code 229 = .ok (.invokevirtual 26, 3) := by decide +kernel
theorem dL_law_232 : decode code 232 = .ok (.if_icmp .eq 518, 3) := by decide +kernel
theorem dL_law_237 : decode code 237 = .ok (.aload_n 1, 1) := by decide +kernel
theorem dL_law_238 : decode code 238 = .ok (.invokevirtual 27, 3) := by decide +kernel
theorem dL_law_241 : decode code 241 = .ok (.aload_n 2, 1) := by decide +kernel
theorem dL_law_242 : decode code 242 = .ok (.invokevirtual 31, 3) := by decide +kernel
theorem dL_law_245 : decode code 245 = .ok (.if_icmp .eq 505, 3) := by decide +kernel
theorem dL_law_250 : decode code 250 = .ok (.aload_n 1, 1) := by decide +kernel
theorem dL_law_251 : decode code 251 = .ok (.invokevirtual 32, 3) := by decide +kernel
theorem dL_law_254 : decode code 254 = .ok (.aload_n 2, 1) := by decide +kernel
theorem dL_law_255 : decode code 255 = .ok (.invokevirtual 35, 3) := by decide +kernel
theorem dL_law_258 : decode code 258 = .ok (.if_icmp .eq 492, 3) := by decide +kernel
theorem dL_law_263 : decode code 263 = .ok (.aload_n 1, 1) := by decide +kernel
theorem dL_law_264 : decode code 264 = .ok (.aload_n 0, 1) := by decide +kernel
theorem dL_law_265 : decode code 265 = .ok (.iload_n 3, 1) := by decide +kernel
theorem dL_law_266 : decode code 266 = .ok (.iconst 1, 1) := by decide +kernel
theorem dL_law_267 : decode code 267 = .ok (.iadd, 1) := by decide +kernel
theorem dL_law_268 : decode code 268 = .ok (.iaload, 1) := by decide +kernel
theorem dL_law_269 : decode code 269 = .ok (.i2l, 1) := by decide +kernel
theorem dL_law_270 : decode code 270 = .ok (.bipush 32, 2) := by decide +kernel
theorem dL_law_272 : decode code 272 = .ok (.lshl, 1) := by decide +kernel
theorem dL_law_273 : decode code 273 = .ok (.aload_n 0, 1) := by decide +kernel
theorem dL_law_274 : decode code 274 = .ok (.iload_n 3, 1) := by decide +kernel
theorem dL_law_275 : decode code 275 = .ok (.iconst 2, 1) := by decide +kernel
theorem dL_law_276 : decode code 276 = .ok (.iadd, 1) := by decide +kernel
theorem dL_law_277 : decode code 277 = .ok (.iaload, 1) := by decide +kernel
theorem dL_law_278 : decode code 278 = .ok (.i2l, 1) := by decide +kernel
theorem dL_law_279 : decode code 279 = .ok (.ldc2_w 36, 3) := by decide +kernel
theorem dL_law_282 : decode code 282 = .ok (.land, 1) := by decide +kernel
theorem dL_law_283 : decode code 283 = .ok (.lor, 1) := by decide +kernel
theorem dL_law_284 : decode code 284 = .ok (.invokevirtual 38, 3) := by decide +kernel
theorem dL_law_287 : decode code 287 = .ok (.aload_n 2, 1) := by decide +kernel
theorem dL_law_288 : decode code 288 = .ok (.aload_n 0, 1) := by decide +kernel
theorem dL_law_289 : decode code 289 = .ok (.iload_n 3, 1) := by decide +kernel
theorem dL_law_290 : decode code 290 = .ok (.iconst 1, 1) := by decide +kernel
theorem dL_law_291 : decode code 291 = .ok (.iadd, 1) := by decide +kernel
theorem dL_law_292 : decode code 292 = .ok (.iaload, 1) := by decide +kernel
theorem dL_law_293 : decode code 293 = .ok (.i2l, 1) := by decide +kernel
theorem dL_law_294 : decode code 294 = .ok (.bipush 32, 2) := by decide +kernel
theorem dL_law_296 : decode code 296 = .ok (.lshl, 1) := by decide +kernel
theorem dL_law_297 : decode code 297 = .ok (.aload_n 0, 1) := by decide +kernel
theorem dL_law_298 : decode code 298 = .ok (.iload_n 3, 1) := by decide +kernel
theorem dL_law_299 : decode code 299 = .ok (.iconst 2, 1) := by decide +kernel
theorem dL_law_300 : decode code 300 = .ok (.iadd, 1) := by decide +kernel
theorem dL_law_301 : decode code 301 = .ok (.iaload, 1) := by decide +kernel
theorem dL_law_302 : decode code 302 = .ok (.i2l, 1) := by decide +kernel
theorem dL_law_303 : decode code 303 = .ok (.ldc2_w 36, 3) := by decide +kernel
theorem dL_law_306 : decode code 306 = .ok (.land, 1) := by decide +kernel
theorem dL_law_307 : decode code 307 = .ok (.lor, 1) := by decide +kernel
theorem dL_law_308 : decode code 308 = .ok (.invokevirtual 42, 3) := by decide +kernel
theorem dL_law_311 : decode code 311 = .ok (.if_icmp .eq 439, 3) := by decide +kernel
theorem dL_law_316 : decode code 316 = .ok (.aload_n 1, 1) := by decide +kernel
theorem dL_law_317 : decode code 317 = .ok (.invokevirtual 43, 3) := by decide +kernel
theorem dL_law_320 : decode code 320 = .ok (.aload_n 2, 1) := by decide +kernel
theorem dL_law_321 : decode code 321 = .ok (.invokevirtual 46, 3) := by decide +kernel
theorem dL_law_324 : decode code 324 = .ok (.if_icmp .eq 426, 3) := by decide +kernel
theorem dL_law_329 : decode code 329 = .ok (.aload_n 1, 1) := by decide +kernel
theorem dL_law_330 : decode code 330 = .ok (.aload_n 0, 1) := by decide +kernel
theorem dL_law_331 : decode code 331 = .ok (.iload_n 3, 1) := by decide +kernel
theorem dL_law_332 : decode code 332 = .ok (.iconst 1, 1) := by decide +kernel
theorem dL_law_333 : decode code 333 = .ok (.iadd, 1) := by decide +kernel
theorem dL_law_334 : decode code 334 = .ok (.iaload, 1) := by decide +kernel
theorem dL_law_335 : decode code 335 = .ok (.aload_n 0, 1) := by decide +kernel
theorem dL_law_336 : decode code 336 = .ok (.iload_n 3, 1) := by decide +kernel
theorem dL_law_337 : decode code 337 = .ok (.iconst 2, 1) := by decide +kernel
theorem dL_law_338 : decode code 338 = .ok (.iadd, 1) := by decide +kernel
theorem dL_law_339 : decode code 339 = .ok (.iaload, 1) := by decide +kernel
theorem dL_law_340 : decode code 340 = .ok (.i2l, 1) := by decide +kernel
theorem dL_law_341 : decode code 341 = .ok (.bipush 32, 2) := by decide +kernel
theorem dL_law_343 : decode code 343 = .ok (.lshl, 1) := by decide +kernel
theorem dL_law_344 : decode code 344 = .ok (.aload_n 0, 1) := by decide +kernel
theorem dL_law_345 : decode code 345 = .ok (.iload_n 3, 1) := by decide +kernel
theorem dL_law_346 : decode code 346 = .ok (.iconst 3, 1) := by decide +kernel
theorem dL_law_347 : decode code 347 = .ok (.iadd, 1) := by decide +kernel
theorem dL_law_348 : decode code 348 = .ok (.iaload, 1) := by decide +kernel
theorem dL_law_349 : decode code 349 = .ok (.i2l, 1) := by decide +kernel
theorem dL_law_350 : decode code 350 = .ok (.ldc2_w 36, 3) := by decide +kernel
theorem dL_law_353 : decode code 353 = .ok (.land, 1) := by decide +kernel
theorem dL_law_354 : decode code 354 = .ok (.lor, 1) := by decide +kernel
theorem dL_law_355 : decode code 355 = .ok (.invokevirtual 47, 3) := by decide +kernel
theorem dL_law_358 : decode code 358 = .ok (.aload_n 2, 1) := by decide +kernel
theorem dL_law_359 : decode code 359 = .ok (.aload_n 0, 1) := by decide +kernel
theorem dL_law_360 : decode code 360 = .ok (.iload_n 3, 1) := by decide +kernel
theorem dL_law_361 : decode code 361 = .ok (.iconst 1, 1) := by decide +kernel
theorem dL_law_362 : decode code 362 = .ok (.iadd, 1) := by decide +kernel
theorem dL_law_363 : decode code 363 = .ok (.iaload, 1) := by decide +kernel
theorem dL_law_364 : decode code 364 = .ok (.aload_n 0, 1) := by decide +kernel
theorem dL_law_365 : decode code 365 = .ok (.iload_n 3, 1) := by decide +kernel
theorem dL_law_366 : decode code 366 = .ok (.iconst 2, 1) := by decide +kernel
theorem dL_law_367 : decode code 367 = .ok (.iadd, 1) := by decide +kernel
theorem dL_law_368 : decode code 368 = .ok (.iaload, 1) := by decide +kernel
theorem dL_law_369 : decode code 369 = .ok (.i2l, 1) := by decide +kernel
theorem dL_law_370 : decode code 370 = .ok (.bipush 32, 2) := by decide +kernel
theorem dL_law_372 : decode code 372 = .ok (.lshl, 1) := by decide +kernel
theorem dL_law_373 : decode code 373 = .ok (.aload_n 0, 1) := by decide +kernel
theorem dL_law_374 : decode code 374 = .ok (.iload_n 3, 1) := by decide +kernel
theorem dL_law_375 : decode code 375 = .ok (.iconst 3, 1) := by decide +kernel
theorem dL_law_376 : decode code 376 = .ok (.iadd, 1) := by decide +kernel
theorem dL_law_377 : decode code 377 = .ok (.iaload, 1) := by decide +kernel
theorem dL_law_378 : decode code 378 = .ok (.i2l, 1) := by decide +kernel
theorem dL_law_379 : decode code 379 = .ok (.ldc2_w 36, 3) := by decide +kernel
theorem dL_law_382 : decode code 382 = .ok (.land, 1) := by decide +kernel
theorem dL_law_383 : decode code 383 = .ok (.lor, 1) := by decide +kernel
theorem dL_law_384 : decode code 384 = .ok (.invokevirtual 51, 3) := by decide +kernel
theorem dL_law_387 : decode code 387 = .ok (.if_icmp .eq 363, 3) := by decide +kernel
theorem dL_law_392 : decode code 392 = .ok (.aload_n 1, 1) := by decide +kernel
theorem dL_law_393 : decode code 393 = .ok (.aload_n 0, 1) := by decide +kernel
theorem dL_law_394 : decode code 394 = .ok (.iload_n 3, 1) := by decide +kernel
theorem dL_law_395 : decode code 395 = .ok (.iconst 1, 1) := by decide +kernel
theorem dL_law_396 : decode code 396 = .ok (.iadd, 1) := by decide +kernel
theorem dL_law_397 : decode code 397 = .ok (.iaload, 1) := by decide +kernel
theorem dL_law_398 : decode code 398 = .ok (.aload_n 0, 1) := by decide +kernel
theorem dL_law_399 : decode code 399 = .ok (.iload_n 3, 1) := by decide +kernel
theorem dL_law_400 : decode code 400 = .ok (.iconst 2, 1) := by decide +kernel
theorem dL_law_401 : decode code 401 = .ok (.iadd, 1) := by decide +kernel
theorem dL_law_402 : decode code 402 = .ok (.iaload, 1) := by decide +kernel
theorem dL_law_403 : decode code 403 = .ok (.invokevirtual 52, 3) := by decide +kernel
theorem dL_law_406 : decode code 406 = .ok (.aload_n 2, 1) := by decide +kernel
theorem dL_law_407 : decode code 407 = .ok (.aload_n 0, 1) := by decide +kernel
theorem dL_law_408 : decode code 408 = .ok (.iload_n 3, 1) := by decide +kernel
theorem dL_law_409 : decode code 409 = .ok (.iconst 1, 1) := by decide +kernel
theorem dL_law_410 : decode code 410 = .ok (.iadd, 1) := by decide +kernel
theorem dL_law_411 : decode code 411 = .ok (.iaload, 1) := by decide +kernel
theorem dL_law_412 : decode code 412 = .ok (.aload_n 0, 1) := by decide +kernel
theorem dL_law_413 : decode code 413 = .ok (.iload_n 3, 1) := by decide +kernel
theorem dL_law_414 : decode code 414 = .ok (.iconst 2, 1) := by decide +kernel
theorem dL_law_415 : decode code 415 = .ok (.iadd, 1) := by decide +kernel
theorem dL_law_416 : decode code 416 = .ok (.iaload, 1) := by decide +kernel
theorem dL_law_417 : decode code 417 = .ok (.invokevirtual 56, 3) := by decide +kernel
theorem dL_law_420 : decode code 420 = .ok (.if_icmp .eq 330, 3) := by decide +kernel
theorem dL_law_425 : decode code 425 = .ok (.aload_n 1, 1) := by decide +kernel
theorem dL_law_426 : decode code 426 = .ok (.aload_n 0, 1) := by decide +kernel
theorem dL_law_427 : decode code 427 = .ok (.iload_n 3, 1) := by decide +kernel
theorem dL_law_428 : decode code 428 = .ok (.iconst 1, 1) := by decide +kernel
theorem dL_law_429 : decode code 429 = .ok (.iadd, 1) := by decide +kernel
theorem dL_law_430 : decode code 430 = .ok (.iaload, 1) := by decide +kernel
theorem dL_law_431 : decode code 431 = .ok (.i2l, 1) := by decide +kernel
theorem dL_law_432 : decode code 432 = .ok (.bipush 32, 2) := by decide +kernel
theorem dL_law_434 : decode code 434 = .ok (.lshl, 1) := by decide +kernel
theorem dL_law_435 : decode code 435 = .ok (.aload_n 0, 1) := by decide +kernel
theorem dL_law_436 : decode code 436 = .ok (.iload_n 3, 1) := by decide +kernel
theorem dL_law_437 : decode code 437 = .ok (.iconst 2, 1) := by decide +kernel
theorem dL_law_438 : decode code 438 = .ok (.iadd, 1) := by decide +kernel
theorem dL_law_439 : decode code 439 = .ok (.iaload, 1) := by decide +kernel
theorem dL_law_440 : decode code 440 = .ok (.i2l, 1) := by decide +kernel
theorem dL_law_441 : decode code 441 = .ok (.ldc2_w 36, 3) := by decide +kernel
theorem dL_law_444 : decode code 444 = .ok (.land, 1) := by decide +kernel
theorem dL_law_445 : decode code 445 = .ok (.lor, 1) := by decide +kernel
theorem dL_law_446 : decode code 446 = .ok (.invokevirtual 57, 3) := by decide +kernel
theorem dL_law_449 : decode code 449 = .ok (.aload_n 2, 1) := by decide +kernel
theorem dL_law_450 : decode code 450 = .ok (.aload_n 0, 1) := by decide +kernel
theorem dL_law_451 : decode code 451 = .ok (.iload_n 3, 1) := by decide +kernel
theorem dL_law_452 : decode code 452 = .ok (.iconst 1, 1) := by decide +kernel
theorem dL_law_453 : decode code 453 = .ok (.iadd, 1) := by decide +kernel
theorem dL_law_454 : decode code 454 = .ok (.iaload, 1) := by decide +kernel
theorem dL_law_455 : decode code 455 = .ok (.i2l, 1) := by decide +kernel
theorem dL_law_456 : decode code 456 = .ok (.bipush 32, 2) := by decide +kernel
theorem dL_law_458 : decode code 458 = .ok (.lshl, 1) := by decide +kernel
theorem dL_law_459 : decode code 459 = .ok (.aload_n 0, 1) := by decide +kernel
theorem dL_law_460 : decode code 460 = .ok (.iload_n 3, 1) := by decide +kernel
theorem dL_law_461 : decode code 461 = .ok (.iconst 2, 1) := by decide +kernel
theorem dL_law_462 : decode code 462 = .ok (.iadd, 1) := by decide +kernel
theorem dL_law_463 : decode code 463 = .ok (.iaload, 1) := by decide +kernel
theorem dL_law_464 : decode code 464 = .ok (.i2l, 1) := by decide +kernel
theorem dL_law_465 : decode code 465 = .ok (.ldc2_w 36, 3) := by decide +kernel
theorem dL_law_468 : decode code 468 = .ok (.land, 1) := by decide +kernel
theorem dL_law_469 : decode code 469 = .ok (.lor, 1) := by decide +kernel
theorem dL_law_470 : decode code 470 = .ok (.invokevirtual 60, 3) := by decide +kernel
theorem dL_law_473 : decode code 473 = .ok (.if_icmp .eq 277, 3) := by decide +kernel
theorem dL_law_478 : decode code 478 = .ok (.aload_n 1, 1) := by decide +kernel
theorem dL_law_479 : decode code 479 = .ok (.invokevirtual 61, 3) := by decide +kernel
theorem dL_law_482 : decode code 482 = .ok (.aload_n 2, 1) := by decide +kernel
theorem dL_law_483 : decode code 483 = .ok (.invokevirtual 64, 3) := by decide +kernel
theorem dL_law_486 : decode code 486 = .ok (.if_icmp .eq 264, 3) := by decide +kernel
theorem dL_law_491 : decode code 491 = .ok (.aload_n 1, 1) := by decide +kernel
theorem dL_law_492 : decode code 492 = .ok (.aload_n 0, 1) := by decide +kernel
theorem dL_law_493 : decode code 493 = .ok (.iload_n 3, 1) := by decide +kernel
theorem dL_law_494 : decode code 494 = .ok (.iconst 1, 1) := by decide +kernel
theorem dL_law_495 : decode code 495 = .ok (.iadd, 1) := by decide +kernel
theorem dL_law_496 : decode code 496 = .ok (.iaload, 1) := by decide +kernel
theorem dL_law_497 : decode code 497 = .ok (.invokevirtual 65, 3) := by decide +kernel
theorem dL_law_500 : decode code 500 = .ok (.aload_n 2, 1) := by decide +kernel
theorem dL_law_501 : decode code 501 = .ok (.aload_n 0, 1) := by decide +kernel
theorem dL_law_502 : decode code 502 = .ok (.iload_n 3, 1) := by decide +kernel
theorem dL_law_503 : decode code 503 = .ok (.iconst 1, 1) := by decide +kernel
theorem dL_law_504 : decode code 504 = .ok (.iadd, 1) := by decide +kernel
theorem dL_law_505 : decode code 505 = .ok (.iaload, 1) := by decide +kernel
theorem dL_law_506 : decode code 506 = .ok (.invokevirtual 68, 3) := by decide +kernel
theorem dL_law_509 : decode code 509 = .ok (.if_icmp .eq 241, 3) := by decide +kernel
theorem dL_law_514 : decode code 514 = .ok (.aload_n 1, 1) := by decide +kernel
theorem dL_law_515 : decode code 515 = .ok (.aload_n 0, 1) := by decide +kernel
theorem dL_law_516 : decode code 516 = .ok (.iload_n 3, 1) := by decide +kernel
theorem dL_law_517 : decode code 517 = .ok (.iconst 1, 1) := by decide +kernel
theorem dL_law_518 : decode code 518 = .ok (.iadd, 1) := by decide +kernel
theorem dL_law_519 : decode code 519 = .ok (.iaload, 1) := by decide +kernel
theorem dL_law_520 : decode code 520 = .ok (.aload_n 0, 1) := by decide +kernel
theorem dL_law_521 : decode code 521 = .ok (.iload_n 3, 1) := by decide +kernel
theorem dL_law_522 : decode code 522 = .ok (.iconst 2, 1) := by decide +kernel
theorem dL_law_523 : decode code 523 = .ok (.iadd, 1) := by decide +kernel
theorem dL_law_524 : decode code 524 = .ok (.iaload, 1) := by decide +kernel
theorem dL_law_525 : decode code 525 = .ok (.invokevirtual 69, 3) := by decide +kernel
theorem dL_law_528 : decode code 528 = .ok (.aload_n 2, 1) := by decide +kernel
theorem dL_law_529 : decode code 529 = .ok (.aload_n 0, 1) := by decide +kernel
theorem dL_law_530 : decode code 530 = .ok (.iload_n 3, 1) := by decide +kernel
theorem dL_law_531 : decode code 531 = .ok (.iconst 1, 1) := by decide +kernel
theorem dL_law_532 : decode code 532 = .ok (.iadd, 1) := by decide +kernel
theorem dL_law_533 : decode code 533 = .ok (.iaload, 1) := by decide +kernel
theorem dL_law_534 : decode code 534 = .ok (.aload_n 0, 1) := by decide +kernel
theorem dL_law_535 : decode code 535 = .ok (.iload_n 3, 1) := by decide +kernel
theorem dL_law_536 : decode code 536 = .ok (.iconst 2, 1) := by decide +kernel
theorem dL_law_537 : decode code 537 = .ok (.iadd, 1) := by decide +kernel
theorem dL_law_538 : decode code 538 = .ok (.iaload, 1) := by decide +kernel
theorem dL_law_539 : decode code 539 = .ok (.invokevirtual 73, 3) := by decide +kernel
theorem dL_law_542 : decode code 542 = .ok (.lcmp, 1) := by decide +kernel
theorem dL_law_543 : decode code 543 = .ok (.ifCond .eq 207, 3) := by decide +kernel
theorem dL_law_548 : decode code 548 = .ok (.aload_n 1, 1) := by decide +kernel
theorem dL_law_549 : decode code 549 = .ok (.aload_n 0, 1) := by decide +kernel
theorem dL_law_550 : decode code 550 = .ok (.iload_n 3, 1) := by decide +kernel
theorem dL_law_551 : decode code 551 = .ok (.iconst 1, 1) := by decide +kernel
theorem dL_law_552 : decode code 552 = .ok (.iadd, 1) := by decide +kernel
theorem dL_law_553 : decode code 553 = .ok (.iaload, 1) := by decide +kernel
theorem dL_law_554 : decode code 554 = .ok (.aload_n 0, 1) := by decide +kernel
theorem dL_law_555 : decode code 555 = .ok (.iload_n 3, 1) := by decide +kernel
theorem dL_law_556 : decode code 556 = .ok (.iconst 2, 1) := by decide +kernel
theorem dL_law_557 : decode code 557 = .ok (.iadd, 1) := by decide +kernel
theorem dL_law_558 : decode code 558 = .ok (.iaload, 1) := by decide +kernel
theorem dL_law_559 : decode code 559 = .ok (.invokevirtual 74, 3) := by decide +kernel
theorem dL_law_562 : decode code 562 = .ok (.aload_n 2, 1) := by decide +kernel
theorem dL_law_563 : decode code 563 = .ok (.aload_n 0, 1) := by decide +kernel
theorem dL_law_564 : decode code 564 = .ok (.iload_n 3, 1) := by decide +kernel
theorem dL_law_565 : decode code 565 = .ok (.iconst 1, 1) := by decide +kernel
theorem dL_law_566 : decode code 566 = .ok (.iadd, 1) := by decide +kernel
theorem dL_law_567 : decode code 567 = .ok (.iaload, 1) := by decide +kernel
theorem dL_law_568 : decode code 568 = .ok (.aload_n 0, 1) := by decide +kernel
theorem dL_law_569 : decode code 569 = .ok (.iload_n 3, 1) := by decide +kernel
theorem dL_law_570 : decode code 570 = .ok (.iconst 2, 1) := by decide +kernel
theorem dL_law_571 : decode code 571 = .ok (.iadd, 1) := by decide +kernel
theorem dL_law_572 : decode code 572 = .ok (.iaload, 1) := by decide +kernel
theorem dL_law_573 : decode code 573 = .ok (.invokevirtual 77, 3) := by decide +kernel
theorem dL_law_576 : decode code 576 = .ok (.if_icmp .eq 174, 3) := by decide +kernel
theorem dL_law_581 : decode code 581 = .ok (.aload_n 1, 1) := by decide +kernel
theorem dL_law_582 : decode code 582 = .ok (.invokevirtual 78, 3) := by decide +kernel
theorem dL_law_585 : decode code 585 = .ok (.aload_n 2, 1) := by decide +kernel
theorem dL_law_586 : decode code 586 = .ok (.invokevirtual 81, 3) := by decide +kernel
theorem dL_law_589 : decode code 589 = .ok (.if_icmp .eq 161, 3) := by decide +kernel
theorem dL_law_594 : decode code 594 = .ok (.aload_n 1, 1) := by decide +kernel
theorem dL_law_595 : decode code 595 = .ok (.aload_n 0, 1) := by decide +kernel
theorem dL_law_596 : decode code 596 = .ok (.iload_n 3, 1) := by decide +kernel
theorem dL_law_597 : decode code 597 = .ok (.iconst 1, 1) := by decide +kernel
theorem dL_law_598 : decode code 598 = .ok (.iadd, 1) := by decide +kernel
theorem dL_law_599 : decode code 599 = .ok (.iaload, 1) := by decide +kernel
theorem dL_law_600 : decode code 600 = .ok (.aload_n 0, 1) := by decide +kernel
theorem dL_law_601 : decode code 601 = .ok (.iload_n 3, 1) := by decide +kernel
theorem dL_law_602 : decode code 602 = .ok (.iconst 2, 1) := by decide +kernel
theorem dL_law_603 : decode code 603 = .ok (.iadd, 1) := by decide +kernel
theorem dL_law_604 : decode code 604 = .ok (.iaload, 1) := by decide +kernel
theorem dL_law_605 : decode code 605 = .ok (.invokevirtual 82, 3) := by decide +kernel
theorem dL_law_608 : decode code 608 = .ok (.aload_n 2, 1) := by decide +kernel
theorem dL_law_609 : decode code 609 = .ok (.aload_n 0, 1) := by decide +kernel
theorem dL_law_610 : decode code 610 = .ok (.iload_n 3, 1) := by decide +kernel
theorem dL_law_611 : decode code 611 = .ok (.iconst 1, 1) := by decide +kernel
theorem dL_law_612 : decode code 612 = .ok (.iadd, 1) := by decide +kernel
theorem dL_law_613 : decode code 613 = .ok (.iaload, 1) := by decide +kernel
theorem dL_law_614 : decode code 614 = .ok (.aload_n 0, 1) := by decide +kernel
theorem dL_law_615 : decode code 615 = .ok (.iload_n 3, 1) := by decide +kernel
theorem dL_law_616 : decode code 616 = .ok (.iconst 2, 1) := by decide +kernel
theorem dL_law_617 : decode code 617 = .ok (.iadd, 1) := by decide +kernel
theorem dL_law_618 : decode code 618 = .ok (.iaload, 1) := by decide +kernel
theorem dL_law_619 : decode code 619 = .ok (.invokevirtual 85, 3) := by decide +kernel
theorem dL_law_622 : decode code 622 = .ok (.lcmp, 1) := by decide +kernel
theorem dL_law_623 : decode code 623 = .ok (.ifCond .eq 127, 3) := by decide +kernel
theorem dL_law_628 : decode code 628 = .ok (.aload_n 1, 1) := by decide +kernel
theorem dL_law_629 : decode code 629 = .ok (.aload_n 0, 1) := by decide +kernel
theorem dL_law_630 : decode code 630 = .ok (.iload_n 3, 1) := by decide +kernel
theorem dL_law_631 : decode code 631 = .ok (.iconst 1, 1) := by decide +kernel
theorem dL_law_632 : decode code 632 = .ok (.iadd, 1) := by decide +kernel
theorem dL_law_633 : decode code 633 = .ok (.iaload, 1) := by decide +kernel
theorem dL_law_634 : decode code 634 = .ok (.aload_n 0, 1) := by decide +kernel
theorem dL_law_635 : decode code 635 = .ok (.iload_n 3, 1) := by decide +kernel
theorem dL_law_636 : decode code 636 = .ok (.iconst 2, 1) := by decide +kernel
theorem dL_law_637 : decode code 637 = .ok (.iadd, 1) := by decide +kernel
theorem dL_law_638 : decode code 638 = .ok (.iaload, 1) := by decide +kernel
theorem dL_law_639 : decode code 639 = .ok (.invokevirtual 86, 3) := by decide +kernel
theorem dL_law_642 : decode code 642 = .ok (.aload_n 2, 1) := by decide +kernel
theorem dL_law_643 : decode code 643 = .ok (.aload_n 0, 1) := by decide +kernel
theorem dL_law_644 : decode code 644 = .ok (.iload_n 3, 1) := by decide +kernel
theorem dL_law_645 : decode code 645 = .ok (.iconst 1, 1) := by decide +kernel
theorem dL_law_646 : decode code 646 = .ok (.iadd, 1) := by decide +kernel
theorem dL_law_647 : decode code 647 = .ok (.iaload, 1) := by decide +kernel
theorem dL_law_648 : decode code 648 = .ok (.aload_n 0, 1) := by decide +kernel
theorem dL_law_649 : decode code 649 = .ok (.iload_n 3, 1) := by decide +kernel
theorem dL_law_650 : decode code 650 = .ok (.iconst 2, 1) := by decide +kernel
theorem dL_law_651 : decode code 651 = .ok (.iadd, 1) := by decide +kernel
theorem dL_law_652 : decode code 652 = .ok (.iaload, 1) := by decide +kernel
theorem dL_law_653 : decode code 653 = .ok (.invokevirtual 89, 3) := by decide +kernel
theorem dL_law_656 : decode code 656 = .ok (.if_icmp .eq 94, 3) := by decide +kernel
theorem dL_law_661 : decode code 661 = .ok (.aload_n 1, 1) := by decide +kernel
theorem dL_law_662 : decode code 662 = .ok (.aload_n 0, 1) := by decide +kernel
theorem dL_law_663 : decode code 663 = .ok (.iload_n 3, 1) := by decide +kernel
theorem dL_law_664 : decode code 664 = .ok (.iconst 1, 1) := by decide +kernel
theorem dL_law_665 : decode code 665 = .ok (.iadd, 1) := by decide +kernel
theorem dL_law_666 : decode code 666 = .ok (.iaload, 1) := by decide +kernel
theorem dL_law_667 : decode code 667 = .ok (.invokevirtual 90, 3) := by decide +kernel
theorem dL_law_670 : decode code 670 = .ok (.aload_n 2, 1) := by decide +kernel
theorem dL_law_671 : decode code 671 = .ok (.aload_n 0, 1) := by decide +kernel
theorem dL_law_672 : decode code 672 = .ok (.iload_n 3, 1) := by decide +kernel
theorem dL_law_673 : decode code 673 = .ok (.iconst 1, 1) := by decide +kernel
theorem dL_law_674 : decode code 674 = .ok (.iadd, 1) := by decide +kernel
theorem dL_law_675 : decode code 675 = .ok (.iaload, 1) := by decide +kernel
theorem dL_law_676 : decode code 676 = .ok (.invokevirtual 93, 3) := by decide +kernel
theorem dL_law_679 : decode code 679 = .ok (.if_icmp .eq 71, 3) := by decide +kernel
theorem dL_law_684 : decode code 684 = .ok (.aload_n 1, 1) := by decide +kernel
theorem dL_law_685 : decode code 685 = .ok (.aload_n 0, 1) := by decide +kernel
theorem dL_law_686 : decode code 686 = .ok (.iload_n 3, 1) := by decide +kernel
theorem dL_law_687 : decode code 687 = .ok (.iconst 1, 1) := by decide +kernel
theorem dL_law_688 : decode code 688 = .ok (.iadd, 1) := by decide +kernel
theorem dL_law_689 : decode code 689 = .ok (.iaload, 1) := by decide +kernel
theorem dL_law_690 : decode code 690 = .ok (.aload_n 0, 1) := by decide +kernel
theorem dL_law_691 : decode code 691 = .ok (.iload_n 3, 1) := by decide +kernel
theorem dL_law_692 : decode code 692 = .ok (.iconst 2, 1) := by decide +kernel
theorem dL_law_693 : decode code 693 = .ok (.iadd, 1) := by decide +kernel
theorem dL_law_694 : decode code 694 = .ok (.iaload, 1) := by decide +kernel
theorem dL_law_695 : decode code 695 = .ok (.aload_n 0, 1) := by decide +kernel
theorem dL_law_696 : decode code 696 = .ok (.iload_n 3, 1) := by decide +kernel
theorem dL_law_697 : decode code 697 = .ok (.iconst 3, 1) := by decide +kernel
theorem dL_law_698 : decode code 698 = .ok (.iadd, 1) := by decide +kernel
theorem dL_law_699 : decode code 699 = .ok (.iaload, 1) := by decide +kernel
theorem dL_law_700 : decode code 700 = .ok (.invokevirtual 94, 3) := by decide +kernel
theorem dL_law_703 : decode code 703 = .ok (.aload_n 2, 1) := by decide +kernel
theorem dL_law_704 : decode code 704 = .ok (.aload_n 0, 1) := by decide +kernel
theorem dL_law_705 : decode code 705 = .ok (.iload_n 3, 1) := by decide +kernel
theorem dL_law_706 : decode code 706 = .ok (.iconst 1, 1) := by decide +kernel
theorem dL_law_707 : decode code 707 = .ok (.iadd, 1) := by decide +kernel
theorem dL_law_708 : decode code 708 = .ok (.iaload, 1) := by decide +kernel
theorem dL_law_709 : decode code 709 = .ok (.aload_n 0, 1) := by decide +kernel
theorem dL_law_710 : decode code 710 = .ok (.iload_n 3, 1) := by decide +kernel
theorem dL_law_711 : decode code 711 = .ok (.iconst 2, 1) := by decide +kernel
theorem dL_law_712 : decode code 712 = .ok (.iadd, 1) := by decide +kernel
theorem dL_law_713 : decode code 713 = .ok (.iaload, 1) := by decide +kernel
theorem dL_law_714 : decode code 714 = .ok (.aload_n 0, 1) := by decide +kernel
theorem dL_law_715 : decode code 715 = .ok (.iload_n 3, 1) := by decide +kernel
theorem dL_law_716 : decode code 716 = .ok (.iconst 3, 1) := by decide +kernel
theorem dL_law_717 : decode code 717 = .ok (.iadd, 1) := by decide +kernel
theorem dL_law_718 : decode code 718 = .ok (.iaload, 1) := by decide +kernel
theorem dL_law_719 : decode code 719 = .ok (.invokevirtual 98, 3) := by decide +kernel
theorem dL_law_722 : decode code 722 = .ok (.if_icmp .eq 28, 3) := by decide +kernel
theorem dL_law_727 : decode code 727 = .ok (.aload_n 1, 1) := by decide +kernel
theorem dL_law_728 : decode code 728 = .ok (.aload_n 0, 1) := by decide +kernel
theorem dL_law_729 : decode code 729 = .ok (.iload_n 3, 1) := by decide +kernel
theorem dL_law_730 : decode code 730 = .ok (.iconst 1, 1) := by decide +kernel
theorem dL_law_731 : decode code 731 = .ok (.iadd, 1) := by decide +kernel
theorem dL_law_732 : decode code 732 = .ok (.iaload, 1) := by decide +kernel
theorem dL_law_733 : decode code 733 = .ok (.invokevirtual 99, 3) := by decide +kernel
theorem dL_law_736 : decode code 736 = .ok (.aload_n 2, 1) := by decide +kernel
theorem dL_law_737 : decode code 737 = .ok (.aload_n 0, 1) := by decide +kernel
theorem dL_law_738 : decode code 738 = .ok (.iload_n 3, 1) := by decide +kernel
theorem dL_law_739 : decode code 739 = .ok (.iconst 1, 1) := by decide +kernel
theorem dL_law_740 : decode code 740 = .ok (.iadd, 1) := by decide +kernel
theorem dL_law_741 : decode code 741 = .ok (.iaload, 1) := by decide +kernel
theorem dL_law_742 : decode code 742 = .ok (.invokevirtual 102, 3) := by decide +kernel
theorem dL_law_745 : decode code 745 = .ok (.if_icmp .eq 5, 3) := by decide +kernel
theorem dL_law_750 : decode code 750 = .ok (.iinc 3 6, 3) := by decide +kernel
theorem dL_law_753 : decode code 753 = .ok (.goto (-735), 3) := by decide +kernel
theorem dL_law_756 : decode code 756 = .ok (.iconst 1, 1) := by decide +kernel
theorem dL_law_757 : decode code 757 = .ok (.ireturn, 1) := by decide +kernel
abbrev cs_t_X12_at_0 (cB cI cJ cZ : ClassId) (h0 : Nat) (a : Nat → Nat) (f : Nat → Int32) (w : Int64) (t1 wd : Nat) (x y : Int32) : va_W := [(h0, .inr (13, moF a (upd (upd f 100 (nI t1)) 101 (nI wd)) w))]
abbrev pc_t_X12_at_0 (dC : Nat → ClassId) (dI : Nat → Nat → Nat) (sz : Nat) (cB cI cJ cZ : ClassId) (h0 : Nat) (a : Nat → Nat) (f : Nat → Int32) (w : Int64) (t1 wd : Nat) (x y : Int32) : Array Value → State → Prop := va_Pc [.ref h0, .int x, .int y] (fun U => U.heap.size = sz ∧ va_P (dC, dI) vwCl [(h0, .inr (13, moF a (upd (upd f 100 (nI t1)) 101 (nI wd)) w))] U.heap ∧ va_K (dC, dI) vwCl [(cB, .byte), (cI, .int), (cJ, .long), (cZ, .boolean)] U ∧ va_D (fun _ => True) [(h0, .inr (13, moF a (upd (upd f 100 (nI t1)) 101 (nI wd)) w))])
abbrev qc_t_X12_at_0 (dC : Nat → ClassId) (dI : Nat → Nat → Nat) (cB cI cJ cZ : ClassId) (h0 : Nat) (a : Nat → Nat) (f : Nat → Int32) (w : Int64) (t1 wd : Nat) (x y : Int32) (A : Nat → Prop) : Array Value → State → Outcome → State → Prop := va_Ql (fun (r : Int64) (u : Unit) => match u with | _ => r = 0) (fun (u : Unit) t_ => match u with | _ => va_P (dC, dI) vwCl [(h0, .inr (13, moF a (upd (upd f 100 (nI t1)) 101 (nI wd)) w))] t_.heap ∧ va_K (dC, dI) vwCl [(cB, .byte), (cI, .int), (cJ, .long), (cZ, .boolean)] t_ ∧ va_D A [(h0, .inr (13, moF a (upd (upd f 100 (nI t1)) 101 (nI wd)) w))]) A
set_option maxHeartbeats 4000000 in
set_option maxRecDepth 100000 in
theorem t_X12_at_0 (l : Launch) (dC : Nat → ClassId) (dI : Nat → Nat → Nat) (sz : Nat) (cB cI cJ cZ : ClassId) (h0 : Nat) (a : Nat → Nat) (f : Nat → Int32) (w : Int64) (t1 wd : Nat) (x y : Int32) (hh : f 81 = 0) : Met l yX12_at (wsOf yX12_at cX12_at 3 (some .long)) ({ frames := 1, cells := 0, slots := 0, locals := 60 }) (pc_t_X12_at_0 dC dI sz cB cI cJ cZ h0 a f w t1 wd x y) (qc_t_X12_at_0 dC dI cB cI cJ cZ h0 a f w t1 wd x y (va_A (cs_t_X12_at_0 cB cI cJ cZ h0 a f w t1 wd x y) sz)) 0 0 (va_A (cs_t_X12_at_0 cB cI cJ cZ h0 a f w t1 wd x y) sz) := by
  refine Met.ofW (cc := cX12_at) (maxL := 3) (ret := (some .long)) (by decide) rfl ?_
  intro p e s m args below meth c s₁ B hml hv
  obtain ⟨rfl, hsz, hP, hK, hD0⟩ := hv
  have hx := B.exec
  have hb := B.bytes
  have hr := B.returns
  have hts := atoms_spec (ws := (wsOf yX12_at cX12_at 3 (some .long))) B.pre
  have hown : s.vm.findClass RX12 = some m.cls := findClass_of_methodNamed B.named
  have hlocks := B.notSynchronized
  subst hsz
  have hD := hD0.self (sz := s.heap.size)
  generalize hAe : va_A (cs_t_X12_at_0 cB cI cJ cZ h0 a f w t1 wd x y) s.heap.size = A at hD ⊢
  have hA : ∀ q : Nat, s.heap.size ≤ q → A q := fun q h => by rw [← hAe]; exact Or.inr h
  have hS : va_S A s.heap s.heap [] := va_S.rf
  have hP : va_P (dC, dI) vwCl [(h0, .inr (13, moF a (upd (upd f 100 (nI t1)) 101 (nI wd)) w))] s.heap := hP
  have hl := lv_entry ([.ref h0, .int x, .int y]) (n := 3) (Nat.le_of_ble_eq_true rfl)
  rw [lg_entry_eq]
  generalize (lg_sl ([.ref h0, .int x, .int y]) ++ List.replicate (3 - (lg_sl ([.ref h0, .int x, .int y])).length) Slot.unset).toArray = ls at hl ⊢
  have hl : lv_has ls 3 [(0, .ref h0), (1, .int x), (2, .int y)] := hl
  refine lv_aload_n hx hb dX12_at_0 rfl (lv_at hl 0 rfl) ?_
  refine lv_iload_n hx hb dX12_at_1 rfl (lv_at hl 1 rfl) ?_
  refine lv_iload_n hx hb dX12_at_2 rfl (lv_at hl 2 rfl) ?_
  have hPc := hP.sub (ws' := [(h0, .inr (13, moF a (upd (upd f 100 (nI t1)) 101 (nI wd)) w))]) [0] rfl
  have hDc := hD.sub (ws' := [(h0, .inr (13, moF a (upd (upd f 100 (nI t1)) 101 (nI wd)) w))]) [0] (by decide) rfl
  have hKc := hK.sub (tys' := [(cB, .byte), (cI, .int), (cJ, .long), (cZ, .boolean)]) [0, 1, 2, 3] rfl
  have hFc := va_free (wc := [(h0, .inr (13, moF a (upd (upd f 100 (nI t1)) 101 (nI wd)) w))]) hD hS hA [0] rfl
  refine va_calli (va_runV (As := [.int x, .int y]) (rest := []) ⟨hx, hb, hml, hown, hts⟩ (t_X12_isAnswer_0 l dC dI s.heap.size cB cI cJ cZ h0 a f w t1 wd x y hh) (cwV 2 hts (gd_all (in_V kw_2488 kw_2490 kw_179 kw_191 kc_X12_isAnswer)) rfl rfl rfl (by decide +kernel) ⟨Nat.le_of_ble_eq_true rfl, Nat.le_of_ble_eq_true rfl⟩) ⟨fun a U g mk q => by obtain ⟨q0, q1, qP, qK, qD⟩ := q; exact ⟨q0, q1, qP, va_K.moved (u := U) (U := U.calling g mk a) (Vm.Alike.refl U.vm) qK, qD⟩, va_recv hKc hPc (ci := 13) (q0 := 0) rfl rfl, fun U hU hW => ⟨rfl, by rw [hU], by rw [hU]; exact hPc, va_K.moved hW.alike hKc, hDc.weaken (fun _ _ _ _ => trivial)⟩⟩ rfl rfl hl.1 rfl (lv_room (Nat.le_of_ble_eq_true rfl)) dX12_at_3 ⟨Nat.le_of_ble_eq_true rfl, Nat.le_of_ble_eq_true rfl⟩) hS (fun q _ h => hFc q h) hFc (fun r_1 u t_ H1 locs ht hvm hw hB hz1 hk1 hS => ?_)
  obtain ⟨hP1, hK1, hD1⟩ := hB
  rw [ht] at hP1
  have hK1 := va_K.moved hvm.symm hK1
  obtain ⟨hP, hD⟩ := va_join (wr := []) (w1 := [(h0, .inr (13, moF a (upd (upd f 100 (nI t1)) 101 (nI wd)) w))]) hP hD [0] [] rfl rfl (by decide) (by decide) hk1 hFc hP1 hD1
  have hK := (hK.sub (tys' := []) [] rfl).app hK1
  generalize H1 = H at hP hS ⊢
  have hP : va_P (dC, dI) vwCl [(h0, .inr (13, moF a (upd (upd f 100 (nI t1)) 101 (nI wd)) w))] H := hP
  have hD : va_D A [(h0, .inr (13, moF a (upd (upd f 100 (nI t1)) 101 (nI wd)) w))] := hD
  have hK : va_K (dC, dI) vwCl [(cB, .byte), (cI, .int), (cJ, .long), (cZ, .boolean)] s := hK
  have er_1 : r_1 = 0 := hw
  rw [er_1]
  refine lv_if_eq (tgt := 25) hx hb dX12_at_6 (by decide) (fun c_2 => ?_) (fun c_2 => ?_)
  · skip
    refine lv_lconst (v := 0) hx hb dX12_at_25 (by decide) ?_
    have hP9 := hP.sub (ws' := [(h0, .inr (13, moF a (upd (upd f 100 (nI t1)) 101 (nI wd)) w))]) [0] rfl
    have hD9 := hD.sub (ws' := [(h0, .inr (13, moF a (upd (upd f 100 (nI t1)) 101 (nI wd)) w))]) [0] (by decide) rfl
    have hK9 := hK.sub (tys' := [(cB, .byte), (cI, .int), (cJ, .long), (cZ, .boolean)]) [0, 1, 2, 3] rfl
    exact W.lret (v := 0) hx hb hr (fun t_ ht hW => ⟨⟨0, (), rfl, rfl, by rw [ht]; exact hP9, va_K.moved hW.alike hK9, hD9⟩, hS.F ht⟩) hS.2.2 dX12_at_26
  · skip
    exact absurd c_2 (by decide)
abbrev cs_t_X12_isNull_0 (cB cI cJ cZ : ClassId) (h0 : Nat) (a : Nat → Nat) (f : Nat → Int32) (w : Int64) (t1 wd : Nat) (x y : Int32) : va_W := [(h0, .inr (13, moF a (upd (upd f 100 (nI t1)) 101 (nI wd)) w))]
abbrev pc_t_X12_isNull_0 (dC : Nat → ClassId) (dI : Nat → Nat → Nat) (sz : Nat) (cB cI cJ cZ : ClassId) (h0 : Nat) (a : Nat → Nat) (f : Nat → Int32) (w : Int64) (t1 wd : Nat) (x y : Int32) : Array Value → State → Prop := va_Pc [.ref h0, .int x, .int y] (fun U => U.heap.size = sz ∧ va_P (dC, dI) vwCl [(h0, .inr (13, moF a (upd (upd f 100 (nI t1)) 101 (nI wd)) w))] U.heap ∧ va_K (dC, dI) vwCl [(cB, .byte), (cI, .int), (cJ, .long), (cZ, .boolean)] U ∧ va_D (fun _ => True) [(h0, .inr (13, moF a (upd (upd f 100 (nI t1)) 101 (nI wd)) w))])
abbrev qc_t_X12_isNull_0 (dC : Nat → ClassId) (dI : Nat → Nat → Nat) (cB cI cJ cZ : ClassId) (h0 : Nat) (a : Nat → Nat) (f : Nat → Int32) (w : Int64) (t1 wd : Nat) (x y : Int32) (A : Nat → Prop) : Array Value → State → Outcome → State → Prop := va_Qi (fun (r : Int32) (u : Unit) => match u with | _ => r = 0) (fun (u : Unit) t_ => match u with | _ => va_P (dC, dI) vwCl [(h0, .inr (13, moF a (upd (upd f 100 (nI t1)) 101 (nI wd)) w))] t_.heap ∧ va_K (dC, dI) vwCl [(cB, .byte), (cI, .int), (cJ, .long), (cZ, .boolean)] t_ ∧ va_D A [(h0, .inr (13, moF a (upd (upd f 100 (nI t1)) 101 (nI wd)) w))]) A
set_option maxHeartbeats 4000000 in
set_option maxRecDepth 100000 in
theorem t_X12_isNull_0 (l : Launch) (dC : Nat → ClassId) (dI : Nat → Nat → Nat) (sz : Nat) (cB cI cJ cZ : ClassId) (h0 : Nat) (a : Nat → Nat) (f : Nat → Int32) (w : Int64) (t1 wd : Nat) (x y : Int32) (hh : f 81 = 0) : Met l yX12_isNull (wsOf yX12_isNull cX12_isNull 3 (some .boolean)) ({ frames := 1, cells := 0, slots := 0, locals := 60 }) (pc_t_X12_isNull_0 dC dI sz cB cI cJ cZ h0 a f w t1 wd x y) (qc_t_X12_isNull_0 dC dI cB cI cJ cZ h0 a f w t1 wd x y (va_A (cs_t_X12_isNull_0 cB cI cJ cZ h0 a f w t1 wd x y) sz)) 0 0 (va_A (cs_t_X12_isNull_0 cB cI cJ cZ h0 a f w t1 wd x y) sz) := by
  refine Met.ofW (cc := cX12_isNull) (maxL := 3) (ret := (some .boolean)) (by decide) rfl ?_
  intro p e s m args below meth c s₁ B hml hv
  obtain ⟨rfl, hsz, hP, hK, hD0⟩ := hv
  have hx := B.exec
  have hb := B.bytes
  have hr := B.returns
  have hts := atoms_spec (ws := (wsOf yX12_isNull cX12_isNull 3 (some .boolean))) B.pre
  have hown : s.vm.findClass RX12 = some m.cls := findClass_of_methodNamed B.named
  have hlocks := B.notSynchronized
  subst hsz
  have hD := hD0.self (sz := s.heap.size)
  generalize hAe : va_A (cs_t_X12_isNull_0 cB cI cJ cZ h0 a f w t1 wd x y) s.heap.size = A at hD ⊢
  have hA : ∀ q : Nat, s.heap.size ≤ q → A q := fun q h => by rw [← hAe]; exact Or.inr h
  have hS : va_S A s.heap s.heap [] := va_S.rf
  have hP : va_P (dC, dI) vwCl [(h0, .inr (13, moF a (upd (upd f 100 (nI t1)) 101 (nI wd)) w))] s.heap := hP
  have hl := lv_entry ([.ref h0, .int x, .int y]) (n := 3) (Nat.le_of_ble_eq_true rfl)
  rw [lg_entry_eq]
  generalize (lg_sl ([.ref h0, .int x, .int y]) ++ List.replicate (3 - (lg_sl ([.ref h0, .int x, .int y])).length) Slot.unset).toArray = ls at hl ⊢
  have hl : lv_has ls 3 [(0, .ref h0), (1, .int x), (2, .int y)] := hl
  refine lv_aload_n hx hb dX12_isNull_0 rfl (lv_at hl 0 rfl) ?_
  refine lv_iload_n hx hb dX12_isNull_1 rfl (lv_at hl 1 rfl) ?_
  refine lv_iload_n hx hb dX12_isNull_2 rfl (lv_at hl 2 rfl) ?_
  have hPc := hP.sub (ws' := [(h0, .inr (13, moF a (upd (upd f 100 (nI t1)) 101 (nI wd)) w))]) [0] rfl
  have hDc := hD.sub (ws' := [(h0, .inr (13, moF a (upd (upd f 100 (nI t1)) 101 (nI wd)) w))]) [0] (by decide) rfl
  have hKc := hK.sub (tys' := [(cB, .byte), (cI, .int), (cJ, .long), (cZ, .boolean)]) [0, 1, 2, 3] rfl
  have hFc := va_free (wc := [(h0, .inr (13, moF a (upd (upd f 100 (nI t1)) 101 (nI wd)) w))]) hD hS hA [0] rfl
  refine va_calli (va_runV (As := [.int x, .int y]) (rest := []) ⟨hx, hb, hml, hown, hts⟩ (t_X12_isAnswer_0 l dC dI s.heap.size cB cI cJ cZ h0 a f w t1 wd x y hh) (cwV 2 hts (gd_all (in_V kw_2488 kw_2490 kw_179 kw_191 kc_X12_isAnswer)) rfl rfl rfl (by decide +kernel) ⟨Nat.le_of_ble_eq_true rfl, Nat.le_of_ble_eq_true rfl⟩) ⟨fun a U g mk q => by obtain ⟨q0, q1, qP, qK, qD⟩ := q; exact ⟨q0, q1, qP, va_K.moved (u := U) (U := U.calling g mk a) (Vm.Alike.refl U.vm) qK, qD⟩, va_recv hKc hPc (ci := 13) (q0 := 0) rfl rfl, fun U hU hW => ⟨rfl, by rw [hU], by rw [hU]; exact hPc, va_K.moved hW.alike hKc, hDc.weaken (fun _ _ _ _ => trivial)⟩⟩ rfl rfl hl.1 rfl (lv_room (Nat.le_of_ble_eq_true rfl)) dX12_isNull_3 ⟨Nat.le_of_ble_eq_true rfl, Nat.le_of_ble_eq_true rfl⟩) hS (fun q _ h => hFc q h) hFc (fun r_1 u t_ H1 locs ht hvm hw hB hz1 hk1 hS => ?_)
  obtain ⟨hP1, hK1, hD1⟩ := hB
  rw [ht] at hP1
  have hK1 := va_K.moved hvm.symm hK1
  obtain ⟨hP, hD⟩ := va_join (wr := []) (w1 := [(h0, .inr (13, moF a (upd (upd f 100 (nI t1)) 101 (nI wd)) w))]) hP hD [0] [] rfl rfl (by decide) (by decide) hk1 hFc hP1 hD1
  have hK := (hK.sub (tys' := []) [] rfl).app hK1
  generalize H1 = H at hP hS ⊢
  have hP : va_P (dC, dI) vwCl [(h0, .inr (13, moF a (upd (upd f 100 (nI t1)) 101 (nI wd)) w))] H := hP
  have hD : va_D A [(h0, .inr (13, moF a (upd (upd f 100 (nI t1)) 101 (nI wd)) w))] := hD
  have hK : va_K (dC, dI) vwCl [(cB, .byte), (cI, .int), (cJ, .long), (cZ, .boolean)] s := hK
  have er_1 : r_1 = 0 := hw
  rw [er_1]
  refine lv_if_eq (tgt := 29) hx hb dX12_isNull_6 (by decide) (fun c_2 => ?_) (fun c_2 => ?_)
  · skip
    refine lv_iconst (v := 0) hx hb dX12_isNull_29 (by decide) ?_
    have hP9 := hP.sub (ws' := [(h0, .inr (13, moF a (upd (upd f 100 (nI t1)) 101 (nI wd)) w))]) [0] rfl
    have hD9 := hD.sub (ws' := [(h0, .inr (13, moF a (upd (upd f 100 (nI t1)) 101 (nI wd)) w))]) [0] (by decide) rfl
    have hK9 := hK.sub (tys' := [(cB, .byte), (cI, .int), (cJ, .long), (cZ, .boolean)]) [0, 1, 2, 3] rfl
    exact W.zret (v := 0) hx hb hr (by rfl) (fun t_ ht hW => ⟨⟨0, (), rfl, rfl, by rw [ht]; exact hP9, va_K.moved hW.alike hK9, hD9⟩, hS.F ht⟩) hS.2.2 dX12_isNull_30
  · skip
    exact absurd c_2 (by decide)
theorem law_tail {p : Program} {l : Launch} {e : Env} {s : State} {m : MethodId} {below : List Frame} {meth : Method} {c : Code} {b : Nat} {xs : Nat → Int32} {A : Nat → Prop} {x0 mo kc ks : Nat} (C0 : lw_At p s m meth c b 6 xs) (hA : ∀ q : Nat, s.heap.size ≤ q → A q) (hbA : ¬ A b) (hAf : ∀ q : Nat, A q → s.heap.size ≤ q) (hk : kc ≤ 600000) (hs : ks ≤ 7302250) {H : Heap} {locs : List Loc} {ls : Array Slot} (hS : va_S A s.heap H locs) (hl : lv_has ls 4 [(0, .ref b), (1, .ref x0), (2, .ref mo), (3, .int 0)]) : W p l e room_1 s m #[Value.ref b] below meth c H locs kc ks (lw_Z below #[Value.ref b] s) (F0 m 750 ls []) := by
  obtain ⟨hx, hb, hr, hml, hown, hts, hX, hbl, hlocks, hgv⟩ := C0
  refine lv_iinc (v := 6) (lv' := [(3, .int 6), (0, .ref b), (1, .ref x0), (2, .ref mo)]) hx hb dL_law_750 hl (k := 3) rfl (by decide) (by decide) rfl (fun ls hl => ?_)
  refine lv_goto (tgt := 18) hx hb dL_law_753 (by decide) ?_
  refine lv_iload_n hx hb dL_law_18 rfl (lv_at hl 0 rfl) ?_
  refine lv_aload_n hx hb dL_law_19 rfl (lv_at hl 1 rfl) ?_
  refine va_slen hx hb hX hbl hbA hS dL_law_20 ?_
  refine W.eq (g2 := F0 m 21 ls [.int (nI 6), .int 6]) rfl ?_
  refine lv_bipush (v := 6) hx hb dL_law_21 (by decide) ?_
  refine lv_isub hx hb dL_law_23 ?_
  refine lv_topi (fun x_2 ex_2 => ?_)
  have ex_2 : x_2 = nI (6 - 6) := ex_2.trans (pk_sub (a := 6) (b := 6) (by omega))
  subst ex_2
  refine lv_icmp_gt (tgt := 756) hx hb dL_law_24 (by decide) (fun c_3 => ?_) (fun c_3 => ?_)
  · skip
    have c_3 : 6 - 6 < 6 := (nI_ltI (a := 6 - 6) (b := 6) (by omega) (by omega)).mp c_3
    refine lv_iconst (v := 1) hx hb dL_law_756 (by decide) ?_
    refine va_forget (fun q hq => hAf _ (hS.2.2 q hq)) ?_
    refine W.widen (k := 600000) (n := 7302250) hk hs ?_
    exact lw_ret hx hb hr hlocks dL_law_757
  · skip
    have c_3 : ¬ (6 - 6 < 6) := fun h => c_3 ((nI_ltI (a := 6 - 6) (b := 6) (by omega) (by omega)).mpr h)
    exact absurd (show 6 - 6 < 6 by omega) c_3
set_option maxHeartbeats 4000000 in
set_option maxRecDepth 100000 in
theorem lc_0 {p : Program} {l : Launch} {e : Env} {s : State} {m : MethodId} {below : List Frame} {meth : Method} {c : Code} {dC : Nat → ClassId} {dI : Nat → Nat → Nat} {cB cI cJ cZ cS cO : ClassId} {b : Nat} {xs : Nat → Int32} {K V : Nat → Nat} {fz : Value} {A : Nat → Prop} {as as0 as1 as2 as3 bs bs0 bs1 bs2 bs3 cr cs cs0 cs1 cs2 cs3 cy ds ds0 ds1 ds2 ds3 mo sm sm0 sm1 sm2 sm3 sm4 sm5 tk tk0 tk1 tk2 tk3 tk4 tp tr tr0 tr1 tr10 tr2 tr3 tr4 tr5 tr6 tr7 tr8 tr9 x0 : Nat} {a : Nat → Nat} (C0 : lw_At p s m meth c b 6 xs) (hZ : zE K V fz A s) (hA : ∀ q : Nat, s.heap.size ≤ q → A q) (hbA : ¬ A b) (hAf : ∀ q : Nat, A q → s.heap.size ≤ q)  (hK : va_K (dC, dI) vwCl [(cB, .byte), (cI, .int), (cJ, .long), (cZ, .boolean), (cS, .object "StreamQueries$Source"), (cO, .object "java/lang/Object")] s) {H : Heap} {locs : List Loc} {ls : Array Slot} (hP : va_P (dC, dI) vwCl [(x0, .inr (12, [.ref tp, .int 0, .ref sm, .ref tk, .int 0, .null, .null, .ref as, .ref bs, .ref cs, .ref ds, .int 0, .ref cr, .ref cy, .int 0, .ref tr])), (tp, .inl (cB, 2000, .inl (fun _ => 0))), (mo, .inr (13, moF a (fun _ => 0) (-9223372036854775808))), (a 0, .inl (cB, 2000, .inl (fun _ => 0)))] H) (hD : va_D A [(x0, .inr (12, [.ref tp, .int 0, .ref sm, .ref tk, .int 0, .null, .null, .ref as, .ref bs, .ref cs, .ref ds, .int 0, .ref cr, .ref cy, .int 0, .ref tr])), (tp, .inl (cB, 2000, .inl (fun _ => 0))), (mo, .inr (13, moF a (fun _ => 0) (-9223372036854775808))), (a 0, .inl (cB, 2000, .inl (fun _ => 0)))]) (hS : va_S A s.heap H locs) (hl : lv_has ls 4 [(0, .ref b), (1, .ref x0), (2, .ref mo), (3, .int 0)]) : W p l e room_1 s m #[Value.ref b] below meth c H locs 127 886803 (lw_Z below #[Value.ref b] s) (F0 m 128 ls []) := by
  obtain ⟨hx, hb, hr, hml, hown, hts, hX, hbl, hlocks, hgv⟩ := id C0
  refine lv_aload_n hx hb dL_law_128 rfl (lv_at hl 1 rfl) ?_
  refine lv_aload_n hx hb dL_law_129 rfl (lv_at hl 0 rfl) ?_
  refine lv_iload_n hx hb dL_law_130 rfl (lv_at hl 3 rfl) ?_
  refine lv_iconst (v := 1) hx hb dL_law_131 (by decide) ?_
  refine lv_iadd hx hb dL_law_132 ?_
  refine lv_topi (fun x_1 ex_1 => ?_)
  have ex_1 : x_1 = 1 := ex_1.trans (by decide)
  subst ex_1
  refine va_sld hx hb hX hbl hbA hS (i := 1) (vp_in_nI (n := 1) (N := 6) (by omega) (by omega)) dL_law_133 ?_
  refine lv_topi (fun x_2 ex_2 => ?_)
  have ex_2 : x_2 = xs 1 := ex_2.trans (congrArg xs (nI_clamp (n := 1) (by omega)))
  rw [ex_2]
  refine lv_aload_n hx hb dL_law_134 rfl (lv_at hl 0 rfl) ?_
  refine lv_iload_n hx hb dL_law_135 rfl (lv_at hl 3 rfl) ?_
  refine lv_iconst (v := 2) hx hb dL_law_136 (by decide) ?_
  refine lv_iadd hx hb dL_law_137 ?_
  refine lv_topi (fun x_3 ex_3 => ?_)
  have ex_3 : x_3 = 2 := ex_3.trans (by decide)
  subst ex_3
  refine va_sld hx hb hX hbl hbA hS (i := 2) (vp_in_nI (n := 2) (N := 6) (by omega) (by omega)) dL_law_138 ?_
  refine lv_topi (fun x_4 ex_4 => ?_)
  have ex_4 : x_4 = xs 2 := ex_4.trans (congrArg xs (nI_clamp (n := 2) (by omega)))
  rw [ex_4]
  refine lv_aload_n hx hb dL_law_139 rfl (lv_at hl 0 rfl) ?_
  refine lv_iload_n hx hb dL_law_140 rfl (lv_at hl 3 rfl) ?_
  refine lv_iconst (v := 3) hx hb dL_law_141 (by decide) ?_
  refine lv_iadd hx hb dL_law_142 ?_
  refine lv_topi (fun x_5 ex_5 => ?_)
  have ex_5 : x_5 = 3 := ex_5.trans (by decide)
  subst ex_5
  refine va_sld hx hb hX hbl hbA hS (i := 3) (vp_in_nI (n := 3) (N := 6) (by omega) (by omega)) dL_law_143 ?_
  refine lv_topi (fun x_6 ex_6 => ?_)
  have ex_6 : x_6 = xs 3 := ex_6.trans (congrArg xs (nI_clamp (n := 3) (by omega)))
  rw [ex_6]
  refine lv_aload_n hx hb dL_law_144 rfl (lv_at hl 0 rfl) ?_
  refine lv_iload_n hx hb dL_law_145 rfl (lv_at hl 3 rfl) ?_
  refine lv_iconst (v := 4) hx hb dL_law_146 (by decide) ?_
  refine lv_iadd hx hb dL_law_147 ?_
  refine lv_topi (fun x_7 ex_7 => ?_)
  have ex_7 : x_7 = 4 := ex_7.trans (by decide)
  subst ex_7
  refine va_sld hx hb hX hbl hbA hS (i := 4) (vp_in_nI (n := 4) (N := 6) (by omega) (by omega)) dL_law_148 ?_
  refine lv_topi (fun x_8 ex_8 => ?_)
  have ex_8 : x_8 = xs 4 := ex_8.trans (congrArg xs (nI_clamp (n := 4) (by omega)))
  rw [ex_8]
  refine lv_aload_n hx hb dL_law_149 rfl (lv_at hl 0 rfl) ?_
  refine lv_iload_n hx hb dL_law_150 rfl (lv_at hl 3 rfl) ?_
  refine lv_iconst (v := 5) hx hb dL_law_151 (by decide) ?_
  refine lv_iadd hx hb dL_law_152 ?_
  refine lv_topi (fun x_9 ex_9 => ?_)
  have ex_9 : x_9 = 5 := ex_9.trans (by decide)
  subst ex_9
  refine va_sld hx hb hX hbl hbA hS (i := 5) (vp_in_nI (n := 5) (N := 6) (by omega) (by omega)) dL_law_153 ?_
  refine lv_topi (fun x_10 ex_10 => ?_)
  have ex_10 : x_10 = xs 5 := ex_10.trans (congrArg xs (nI_clamp (n := 5) (by omega)))
  rw [ex_10]
  have hPc := hP.sub (ws' := [(x0, .inr (12, [.ref tp, .int 0, .ref sm, .ref tk, .int 0, .null, .null, .ref as, .ref bs, .ref cs, .ref ds, .int 0, .ref cr, .ref cy, .int 0, .ref tr])), (tp, .inl (cB, 2000, .inl (fun _ => 0)))]) [0, 1] rfl
  have hDc := hD.sub (ws' := [(x0, .inr (12, [.ref tp, .int 0, .ref sm, .ref tk, .int 0, .null, .null, .ref as, .ref bs, .ref cs, .ref ds, .int 0, .ref cr, .ref cy, .int 0, .ref tr])), (tp, .inl (cB, 2000, .inl (fun _ => 0)))]) [0, 1] (by decide) rfl
  have hKc := hK.sub (tys' := [(cB, .byte), (cI, .int), (cJ, .long), (cZ, .boolean)]) [0, 1, 2, 3] rfl
  have hFc := va_free (wc := [(x0, .inr (12, [.ref tp, .int 0, .ref sm, .ref tk, .int 0, .null, .null, .ref as, .ref bs, .ref cs, .ref ds, .int 0, .ref cr, .ref cy, .int 0, .ref tr])), (tp, .inl (cB, 2000, .inl (fun _ => 0)))]) hD hS hA [0, 1] rfl
  refine va_calli (va_runV (As := [.int (xs 1), .int (xs 2), .int (xs 3), .int (xs 4), .int (xs 5)]) (rest := []) ⟨hx, hb, hml, hown, hts⟩ (t_X11_feed l dC dI H.size cB cI cJ cZ x0 tp (fun _ => 0) 0 (.ref sm) (.ref tk) .null .null (.ref as) (.ref bs) (.ref cs) (.ref ds) (.ref cr) (.ref cy) (.ref tr) 0 0 0 (xs 1) (xs 2) (xs 3) (xs 4) (xs 5) (by omega)) (cwV 5 hts (gd_law (in_V kw_477 kw_478 kw_479 kw_181 kc_X11_feed)) rfl rfl rfl (by decide +kernel) ⟨Nat.le_of_ble_eq_true rfl, Nat.le_of_ble_eq_true rfl⟩) ⟨fun a U g mk q => by obtain ⟨q0, q1, qP, qK, qD⟩ := q; exact ⟨q0, q1, qP, va_K.moved (u := U) (U := U.calling g mk a) (Vm.Alike.refl U.vm) qK, qD⟩, va_recv hKc hPc (ci := 12) (q0 := 0) rfl rfl, fun U hU hW => ⟨rfl, by rw [hU], by rw [hU]; exact hPc, va_K.moved hW.alike hKc, hDc.weaken (fun _ _ _ _ => trivial)⟩⟩ rfl rfl hl.1 rfl (lv_room (Nat.le_of_ble_eq_true rfl)) dL_law_154 ⟨Nat.le_of_ble_eq_true rfl, Nat.le_of_ble_eq_true rfl⟩) hS (fun q _ h => hFc q h) hFc (fun r_11 u t_ H1 locs ht hvm hw hB hz1 hk1 hS => ?_)
  obtain ⟨t2, g2⟩ := u
  obtain ⟨hP1, hK1, hD1⟩ := hB
  obtain ⟨hw, -⟩ := hw
  rw [ht] at hP1
  have hK1 := va_K.moved hvm.symm hK1
  obtain ⟨hP, hD⟩ := va_join (wr := [(mo, .inr (13, moF a (fun _ => 0) (-9223372036854775808))), (a 0, .inl (cB, 2000, .inl (fun _ => 0)))]) (w1 := [(x0, .inr (12, [.ref tp, .int (nI t2), .ref sm, .ref tk, .int 0, .null, .null, .ref as, .ref bs, .ref cs, .ref ds, .int 0, .ref cr, .ref cy, .int 0, .ref tr])), (tp, .inl (cB, 2000, .inl g2))]) hP hD [0, 1] [2, 3] rfl rfl (by decide) (by decide) hk1 hFc hP1 hD1
  have hK := (hK.sub (tys' := [(cS, .object "StreamQueries$Source"), (cO, .object "java/lang/Object")]) [4, 5] rfl).app hK1
  generalize H1 = H at hP hS ⊢
  have hP : va_P (dC, dI) vwCl [(mo, .inr (13, moF a (fun _ => 0) (-9223372036854775808))), (a 0, .inl (cB, 2000, .inl (fun _ => 0))), (x0, .inr (12, [.ref tp, .int (nI t2), .ref sm, .ref tk, .int 0, .null, .null, .ref as, .ref bs, .ref cs, .ref ds, .int 0, .ref cr, .ref cy, .int 0, .ref tr])), (tp, .inl (cB, 2000, .inl g2))] H := hP
  have hD : va_D A [(mo, .inr (13, moF a (fun _ => 0) (-9223372036854775808))), (a 0, .inl (cB, 2000, .inl (fun _ => 0))), (x0, .inr (12, [.ref tp, .int (nI t2), .ref sm, .ref tk, .int 0, .null, .null, .ref as, .ref bs, .ref cs, .ref ds, .int 0, .ref cr, .ref cy, .int 0, .ref tr])), (tp, .inl (cB, 2000, .inl g2))] := hD
  have hK : va_K (dC, dI) vwCl [(cS, .object "StreamQueries$Source"), (cO, .object "java/lang/Object"), (cB, .byte), (cI, .int), (cJ, .long), (cZ, .boolean)] s := hK
  have er_11 : r_11 = feedR 0 := hw
  rw [er_11]
  refine lv_aload_n hx hb dL_law_157 rfl (lv_at hl 2 rfl) ?_
  refine lv_aload_n hx hb dL_law_158 rfl (lv_at hl 0 rfl) ?_
  refine lv_iload_n hx hb dL_law_159 rfl (lv_at hl 3 rfl) ?_
  refine lv_iconst (v := 1) hx hb dL_law_160 (by decide) ?_
  refine lv_iadd hx hb dL_law_161 ?_
  refine lv_topi (fun x_12 ex_12 => ?_)
  have ex_12 : x_12 = 1 := ex_12.trans (by decide)
  subst ex_12
  refine va_sld hx hb hX hbl hbA hS (i := 1) (vp_in_nI (n := 1) (N := 6) (by omega) (by omega)) dL_law_162 ?_
  refine lv_topi (fun x_13 ex_13 => ?_)
  have ex_13 : x_13 = xs 1 := ex_13.trans (congrArg xs (nI_clamp (n := 1) (by omega)))
  rw [ex_13]
  refine lv_aload_n hx hb dL_law_163 rfl (lv_at hl 0 rfl) ?_
  refine lv_iload_n hx hb dL_law_164 rfl (lv_at hl 3 rfl) ?_
  refine lv_iconst (v := 2) hx hb dL_law_165 (by decide) ?_
  refine lv_iadd hx hb dL_law_166 ?_
  refine lv_topi (fun x_14 ex_14 => ?_)
  have ex_14 : x_14 = 2 := ex_14.trans (by decide)
  subst ex_14
  refine va_sld hx hb hX hbl hbA hS (i := 2) (vp_in_nI (n := 2) (N := 6) (by omega) (by omega)) dL_law_167 ?_
  refine lv_topi (fun x_15 ex_15 => ?_)
  have ex_15 : x_15 = xs 2 := ex_15.trans (congrArg xs (nI_clamp (n := 2) (by omega)))
  rw [ex_15]
  refine lv_aload_n hx hb dL_law_168 rfl (lv_at hl 0 rfl) ?_
  refine lv_iload_n hx hb dL_law_169 rfl (lv_at hl 3 rfl) ?_
  refine lv_iconst (v := 3) hx hb dL_law_170 (by decide) ?_
  refine lv_iadd hx hb dL_law_171 ?_
  refine lv_topi (fun x_16 ex_16 => ?_)
  have ex_16 : x_16 = 3 := ex_16.trans (by decide)
  subst ex_16
  refine va_sld hx hb hX hbl hbA hS (i := 3) (vp_in_nI (n := 3) (N := 6) (by omega) (by omega)) dL_law_172 ?_
  refine lv_topi (fun x_17 ex_17 => ?_)
  have ex_17 : x_17 = xs 3 := ex_17.trans (congrArg xs (nI_clamp (n := 3) (by omega)))
  rw [ex_17]
  refine lv_aload_n hx hb dL_law_173 rfl (lv_at hl 0 rfl) ?_
  refine lv_iload_n hx hb dL_law_174 rfl (lv_at hl 3 rfl) ?_
  refine lv_iconst (v := 4) hx hb dL_law_175 (by decide) ?_
  refine lv_iadd hx hb dL_law_176 ?_
  refine lv_topi (fun x_18 ex_18 => ?_)
  have ex_18 : x_18 = 4 := ex_18.trans (by decide)
  subst ex_18
  refine va_sld hx hb hX hbl hbA hS (i := 4) (vp_in_nI (n := 4) (N := 6) (by omega) (by omega)) dL_law_177 ?_
  refine lv_topi (fun x_19 ex_19 => ?_)
  have ex_19 : x_19 = xs 4 := ex_19.trans (congrArg xs (nI_clamp (n := 4) (by omega)))
  rw [ex_19]
  refine lv_aload_n hx hb dL_law_178 rfl (lv_at hl 0 rfl) ?_
  refine lv_iload_n hx hb dL_law_179 rfl (lv_at hl 3 rfl) ?_
  refine lv_iconst (v := 5) hx hb dL_law_180 (by decide) ?_
  refine lv_iadd hx hb dL_law_181 ?_
  refine lv_topi (fun x_20 ex_20 => ?_)
  have ex_20 : x_20 = 5 := ex_20.trans (by decide)
  subst ex_20
  refine va_sld hx hb hX hbl hbA hS (i := 5) (vp_in_nI (n := 5) (N := 6) (by omega) (by omega)) dL_law_182 ?_
  refine lv_topi (fun x_21 ex_21 => ?_)
  have ex_21 : x_21 = xs 5 := ex_21.trans (congrArg xs (nI_clamp (n := 5) (by omega)))
  rw [ex_21]
  have hPc := hP.sub (ws' := [(mo, .inr (13, moF a (fun _ => 0) (-9223372036854775808))), (a 0, .inl (cB, 2000, .inl (fun _ => 0)))]) [0, 1] rfl
  have hDc := hD.sub (ws' := [(mo, .inr (13, moF a (fun _ => 0) (-9223372036854775808))), (a 0, .inl (cB, 2000, .inl (fun _ => 0)))]) [0, 1] (by decide) rfl
  have hKc := hK.sub (tys' := [(cB, .byte), (cI, .int), (cJ, .long), (cZ, .boolean)]) [2, 3, 4, 5] rfl
  have hFc := va_free (wc := [(mo, .inr (13, moF a (fun _ => 0) (-9223372036854775808))), (a 0, .inl (cB, 2000, .inl (fun _ => 0)))]) hD hS hA [0, 1] rfl
  refine va_calli (va_runV (As := [.int (xs 1), .int (xs 2), .int (xs 3), .int (xs 4), .int (xs 5)]) (rest := [.int (feedR 0)]) ⟨hx, hb, hml, hown, hts⟩ (t_X12_feed l dC dI H.size cB cI cJ cZ mo a (fun _ => 0) 0 (fun _ => 0) (-9223372036854775808) (xs 1) (xs 2) (xs 3) (xs 4) (xs 5) (by omega)) (cwV 5 hts (gd_law (in_V kw_2038 kw_2039 kw_2040 kw_191 kc_X12_feed)) rfl rfl rfl (by decide +kernel) ⟨Nat.le_of_ble_eq_true rfl, Nat.le_of_ble_eq_true rfl⟩) ⟨fun a U g mk q => by obtain ⟨q0, q1, qP, qK, qD⟩ := q; exact ⟨q0, q1, qP, va_K.moved (u := U) (U := U.calling g mk a) (Vm.Alike.refl U.vm) qK, qD⟩, va_recv hKc hPc (ci := 13) (q0 := 0) rfl rfl, fun U hU hW => ⟨rfl, by rw [hU], by rw [hU]; exact hPc, va_K.moved hW.alike hKc, hDc.weaken (fun _ _ _ _ => trivial)⟩⟩ rfl rfl hl.1 rfl (lv_room (Nat.le_of_ble_eq_true rfl)) dL_law_183 ⟨Nat.le_of_ble_eq_true rfl, Nat.le_of_ble_eq_true rfl⟩) hS (fun q _ h => hFc q h) hFc (fun r_22 u t_ H1 locs ht hvm hw hB hz1 hk1 hS => ?_)
  obtain ⟨t3, g3⟩ := u
  obtain ⟨hP1, hK1, hD1⟩ := hB
  obtain ⟨hw, -⟩ := hw
  rw [ht] at hP1
  have hK1 := va_K.moved hvm.symm hK1
  obtain ⟨hP, hD⟩ := va_join (wr := [(x0, .inr (12, [.ref tp, .int (nI t2), .ref sm, .ref tk, .int 0, .null, .null, .ref as, .ref bs, .ref cs, .ref ds, .int 0, .ref cr, .ref cy, .int 0, .ref tr])), (tp, .inl (cB, 2000, .inl g2))]) (w1 := [(mo, .inr (13, moF a (upd (fun _ => 0) 1 (nI t3)) (-9223372036854775808))), (a 0, .inl (cB, 2000, .inl g3))]) hP hD [0, 1] [2, 3] rfl rfl (by decide) (by decide) hk1 hFc hP1 hD1
  have hK := (hK.sub (tys' := [(cS, .object "StreamQueries$Source"), (cO, .object "java/lang/Object")]) [0, 1] rfl).app hK1
  generalize H1 = H at hP hS ⊢
  have hP : va_P (dC, dI) vwCl [(x0, .inr (12, [.ref tp, .int (nI t2), .ref sm, .ref tk, .int 0, .null, .null, .ref as, .ref bs, .ref cs, .ref ds, .int 0, .ref cr, .ref cy, .int 0, .ref tr])), (tp, .inl (cB, 2000, .inl g2)), (mo, .inr (13, moF a (upd (fun _ => 0) 1 (nI t3)) (-9223372036854775808))), (a 0, .inl (cB, 2000, .inl g3))] H := hP
  have hD : va_D A [(x0, .inr (12, [.ref tp, .int (nI t2), .ref sm, .ref tk, .int 0, .null, .null, .ref as, .ref bs, .ref cs, .ref ds, .int 0, .ref cr, .ref cy, .int 0, .ref tr])), (tp, .inl (cB, 2000, .inl g2)), (mo, .inr (13, moF a (upd (fun _ => 0) 1 (nI t3)) (-9223372036854775808))), (a 0, .inl (cB, 2000, .inl g3))] := hD
  have hK : va_K (dC, dI) vwCl [(cS, .object "StreamQueries$Source"), (cO, .object "java/lang/Object"), (cB, .byte), (cI, .int), (cJ, .long), (cZ, .boolean)] s := hK
  have er_22 : r_22 = feedR 0 := hw
  rw [er_22]
  refine lv_icmp_eq (tgt := 750) hx hb dL_law_186 (by decide) (fun c_23 => ?_) (fun c_23 => ?_)
  · skip
    exact law_tail C0 hA hbA hAf (Nat.le_of_ble_eq_true rfl) (Nat.le_of_ble_eq_true rfl) hS (lv_sub hl [0, 1, 2, 3] rfl)
  · skip
    exact absurd rfl c_23
set_option maxHeartbeats 4000000 in
set_option maxRecDepth 100000 in
theorem lc_1 {p : Program} {l : Launch} {e : Env} {s : State} {m : MethodId} {below : List Frame} {meth : Method} {c : Code} {dC : Nat → ClassId} {dI : Nat → Nat → Nat} {cB cI cJ cZ cS cO : ClassId} {b : Nat} {xs : Nat → Int32} {K V : Nat → Nat} {fz : Value} {A : Nat → Prop} {as as0 as1 as2 as3 bs bs0 bs1 bs2 bs3 cr cs cs0 cs1 cs2 cs3 cy ds ds0 ds1 ds2 ds3 mo sm sm0 sm1 sm2 sm3 sm4 sm5 tk tk0 tk1 tk2 tk3 tk4 tp tr tr0 tr1 tr10 tr2 tr3 tr4 tr5 tr6 tr7 tr8 tr9 x0 : Nat} {a : Nat → Nat} (C0 : lw_At p s m meth c b 6 xs) (hZ : zE K V fz A s) (hA : ∀ q : Nat, s.heap.size ≤ q → A q) (hbA : ¬ A b) (hAf : ∀ q : Nat, A q → s.heap.size ≤ q)  (hK : va_K (dC, dI) vwCl [(cB, .byte), (cI, .int), (cJ, .long), (cZ, .boolean), (cS, .object "StreamQueries$Source"), (cO, .object "java/lang/Object")] s) {H : Heap} {locs : List Loc} {ls : Array Slot} (hP : va_P (dC, dI) vwCl [(x0, .inr (12, [.ref tp, .int 0, .ref sm, .ref tk, .int 0, .null, .null, .ref as, .ref bs, .ref cs, .ref ds, .int 0, .ref cr, .ref cy, .int 0, .ref tr])), (mo, .inr (13, moF a (fun _ => 0) (-9223372036854775808)))] H) (hD : va_D A [(x0, .inr (12, [.ref tp, .int 0, .ref sm, .ref tk, .int 0, .null, .null, .ref as, .ref bs, .ref cs, .ref ds, .int 0, .ref cr, .ref cy, .int 0, .ref tr])), (mo, .inr (13, moF a (fun _ => 0) (-9223372036854775808)))]) (hS : va_S A s.heap H locs) (hl : lv_has ls 4 [(0, .ref b), (1, .ref x0), (2, .ref mo), (3, .int 0)]) : W p l e room_1 s m #[Value.ref b] below meth c H locs 127 886803 (lw_Z below #[Value.ref b] s) (F0 m 191 ls []) := by
  obtain ⟨hx, hb, hr, hml, hown, hts, hX, hbl, hlocks, hgv⟩ := id C0
  refine lv_aload_n hx hb dL_law_191 rfl (lv_at hl 1 rfl) ?_
  refine lv_aload_n hx hb dL_law_192 rfl (lv_at hl 0 rfl) ?_
  refine lv_iload_n hx hb dL_law_193 rfl (lv_at hl 3 rfl) ?_
  refine lv_iconst (v := 1) hx hb dL_law_194 (by decide) ?_
  refine lv_iadd hx hb dL_law_195 ?_
  refine lv_topi (fun x_1 ex_1 => ?_)
  have ex_1 : x_1 = 1 := ex_1.trans (by decide)
  subst ex_1
  refine va_sld hx hb hX hbl hbA hS (i := 1) (vp_in_nI (n := 1) (N := 6) (by omega) (by omega)) dL_law_196 ?_
  refine lv_topi (fun x_2 ex_2 => ?_)
  have ex_2 : x_2 = xs 1 := ex_2.trans (congrArg xs (nI_clamp (n := 1) (by omega)))
  rw [ex_2]
  have hPc := hP.sub (ws' := [(x0, .inr (12, [.ref tp, .int 0, .ref sm, .ref tk, .int 0, .null, .null, .ref as, .ref bs, .ref cs, .ref ds, .int 0, .ref cr, .ref cy, .int 0, .ref tr]))]) [0] rfl
  have hDc := hD.sub (ws' := [(x0, .inr (12, [.ref tp, .int 0, .ref sm, .ref tk, .int 0, .null, .null, .ref as, .ref bs, .ref cs, .ref ds, .int 0, .ref cr, .ref cy, .int 0, .ref tr]))]) [0] (by decide) rfl
  have hKc := hK.sub (tys' := []) [] rfl
  have hFc := va_free (wc := [(x0, .inr (12, [.ref tp, .int 0, .ref sm, .ref tk, .int 0, .null, .null, .ref as, .ref bs, .ref cs, .ref ds, .int 0, .ref cr, .ref cy, .int 0, .ref tr]))]) hD hS hA [0] rfl
  refine va_calli (va_runV (As := [.int (xs 1)]) (rest := []) ⟨hx, hb, hml, hown, hts⟩ (t_X11_cut l dC dI H.size x0 (.ref tp) (.ref sm) (.ref tk) .null .null (.ref as) (.ref bs) (.ref cs) (.ref ds) (.ref cr) (.ref cy) (.ref tr) 0 0 0 0 (xs 1)) (cwV 1 hts (gd_law (in_V kw_485 kw_486 kw_487 kw_181 kc_X11_cut)) rfl rfl rfl (by decide +kernel) ⟨Nat.le_of_ble_eq_true rfl, Nat.le_of_ble_eq_true rfl⟩) ⟨fun a U g mk q => by obtain ⟨q0, q1, qP, qK, qD⟩ := q; exact ⟨q0, q1, qP, va_K.moved (u := U) (U := U.calling g mk a) (Vm.Alike.refl U.vm) qK, qD⟩, va_recv hKc hPc (ci := 12) (q0 := 0) rfl rfl, fun U hU hW => ⟨rfl, by rw [hU], by rw [hU]; exact hPc, va_K.moved hW.alike hKc, hDc.weaken (fun _ _ _ _ => trivial)⟩⟩ rfl rfl hl.1 rfl (lv_room (Nat.le_of_ble_eq_true rfl)) dL_law_197 ⟨Nat.le_of_ble_eq_true rfl, Nat.le_of_ble_eq_true rfl⟩) hS (fun q _ h => hFc q h) hFc (fun r_3 u t_ H1 locs ht hvm hw hB hz1 hk1 hS => ?_)
  obtain ⟨u3, hu3⟩ : ∃ z : Int32, z = u := ⟨u, rfl⟩
  subst hu3
  obtain ⟨hP1, hK1, hD1⟩ := hB
  rw [ht] at hP1
  have hK1 := va_K.moved hvm.symm hK1
  obtain ⟨hP, hD⟩ := va_join (wr := [(mo, .inr (13, moF a (fun _ => 0) (-9223372036854775808)))]) (w1 := [(x0, .inr (12, [.ref tp, .int u3, .ref sm, .ref tk, .int 0, .null, .null, .ref as, .ref bs, .ref cs, .ref ds, .int 0, .ref cr, .ref cy, .int 0, .ref tr]))]) hP hD [0] [1] rfl rfl (by decide) (by decide) hk1 hFc hP1 hD1
  have hK := (hK.sub (tys' := [(cB, .byte), (cI, .int), (cJ, .long), (cZ, .boolean), (cS, .object "StreamQueries$Source"), (cO, .object "java/lang/Object")]) [0, 1, 2, 3, 4, 5] rfl).app hK1
  generalize H1 = H at hP hS ⊢
  have hP : va_P (dC, dI) vwCl [(mo, .inr (13, moF a (fun _ => 0) (-9223372036854775808))), (x0, .inr (12, [.ref tp, .int u3, .ref sm, .ref tk, .int 0, .null, .null, .ref as, .ref bs, .ref cs, .ref ds, .int 0, .ref cr, .ref cy, .int 0, .ref tr]))] H := hP
  have hD : va_D A [(mo, .inr (13, moF a (fun _ => 0) (-9223372036854775808))), (x0, .inr (12, [.ref tp, .int u3, .ref sm, .ref tk, .int 0, .null, .null, .ref as, .ref bs, .ref cs, .ref ds, .int 0, .ref cr, .ref cy, .int 0, .ref tr]))] := hD
  have hK : va_K (dC, dI) vwCl [(cB, .byte), (cI, .int), (cJ, .long), (cZ, .boolean), (cS, .object "StreamQueries$Source"), (cO, .object "java/lang/Object")] s := hK
  have er_3 : r_3 = (cutF 0 (xs 1)).1 := congrArg Prod.fst hw
  rw [er_3]
  refine lv_aload_n hx hb dL_law_200 rfl (lv_at hl 2 rfl) ?_
  refine lv_aload_n hx hb dL_law_201 rfl (lv_at hl 0 rfl) ?_
  refine lv_iload_n hx hb dL_law_202 rfl (lv_at hl 3 rfl) ?_
  refine lv_iconst (v := 1) hx hb dL_law_203 (by decide) ?_
  refine lv_iadd hx hb dL_law_204 ?_
  refine lv_topi (fun x_4 ex_4 => ?_)
  have ex_4 : x_4 = 1 := ex_4.trans (by decide)
  subst ex_4
  refine va_sld hx hb hX hbl hbA hS (i := 1) (vp_in_nI (n := 1) (N := 6) (by omega) (by omega)) dL_law_205 ?_
  refine lv_topi (fun x_5 ex_5 => ?_)
  have ex_5 : x_5 = xs 1 := ex_5.trans (congrArg xs (nI_clamp (n := 1) (by omega)))
  rw [ex_5]
  have hPc := hP.sub (ws' := [(mo, .inr (13, moF a (fun _ => 0) (-9223372036854775808)))]) [0] rfl
  have hDc := hD.sub (ws' := [(mo, .inr (13, moF a (fun _ => 0) (-9223372036854775808)))]) [0] (by decide) rfl
  have hKc := hK.sub (tys' := []) [] rfl
  have hFc := va_free (wc := [(mo, .inr (13, moF a (fun _ => 0) (-9223372036854775808)))]) hD hS hA [0] rfl
  refine va_calli (va_runV (As := [.int (xs 1)]) (rest := [.int ((cutF 0 (xs 1)).1)]) ⟨hx, hb, hml, hown, hts⟩ (t_X12_cut l dC dI H.size mo a (fun _ => 0) (-9223372036854775808) (xs 1)) (cwV 1 hts (gd_law (in_V kw_2046 kw_2047 kw_2048 kw_191 kc_X12_cut)) rfl rfl rfl (by decide +kernel) ⟨Nat.le_of_ble_eq_true rfl, Nat.le_of_ble_eq_true rfl⟩) ⟨fun a U g mk q => by obtain ⟨q0, q1, qP, qK, qD⟩ := q; exact ⟨q0, q1, qP, va_K.moved (u := U) (U := U.calling g mk a) (Vm.Alike.refl U.vm) qK, qD⟩, va_recv hKc hPc (ci := 13) (q0 := 0) rfl rfl, fun U hU hW => ⟨rfl, by rw [hU], by rw [hU]; exact hPc, va_K.moved hW.alike hKc, hDc.weaken (fun _ _ _ _ => trivial)⟩⟩ rfl rfl hl.1 rfl (lv_room (Nat.le_of_ble_eq_true rfl)) dL_law_206 ⟨Nat.le_of_ble_eq_true rfl, Nat.le_of_ble_eq_true rfl⟩) hS (fun q _ h => hFc q h) hFc (fun r_6 u t_ H1 locs ht hvm hw hB hz1 hk1 hS => ?_)
  obtain ⟨u4, hu4⟩ : ∃ z : Int32, z = u := ⟨u, rfl⟩
  subst hu4
  obtain ⟨hP1, hK1, hD1⟩ := hB
  rw [ht] at hP1
  have hK1 := va_K.moved hvm.symm hK1
  obtain ⟨hP, hD⟩ := va_join (wr := [(x0, .inr (12, [.ref tp, .int u3, .ref sm, .ref tk, .int 0, .null, .null, .ref as, .ref bs, .ref cs, .ref ds, .int 0, .ref cr, .ref cy, .int 0, .ref tr]))]) (w1 := [(mo, .inr (13, moF a (upd (fun _ => 0) 1 u4) (-9223372036854775808)))]) hP hD [0] [1] rfl rfl (by decide) (by decide) hk1 hFc hP1 hD1
  have hK := (hK.sub (tys' := [(cB, .byte), (cI, .int), (cJ, .long), (cZ, .boolean), (cS, .object "StreamQueries$Source"), (cO, .object "java/lang/Object")]) [0, 1, 2, 3, 4, 5] rfl).app hK1
  generalize H1 = H at hP hS ⊢
  have hP : va_P (dC, dI) vwCl [(x0, .inr (12, [.ref tp, .int u3, .ref sm, .ref tk, .int 0, .null, .null, .ref as, .ref bs, .ref cs, .ref ds, .int 0, .ref cr, .ref cy, .int 0, .ref tr])), (mo, .inr (13, moF a (upd (fun _ => 0) 1 u4) (-9223372036854775808)))] H := hP
  have hD : va_D A [(x0, .inr (12, [.ref tp, .int u3, .ref sm, .ref tk, .int 0, .null, .null, .ref as, .ref bs, .ref cs, .ref ds, .int 0, .ref cr, .ref cy, .int 0, .ref tr])), (mo, .inr (13, moF a (upd (fun _ => 0) 1 u4) (-9223372036854775808)))] := hD
  have hK : va_K (dC, dI) vwCl [(cB, .byte), (cI, .int), (cJ, .long), (cZ, .boolean), (cS, .object "StreamQueries$Source"), (cO, .object "java/lang/Object")] s := hK
  have er_6 : r_6 = (cutF 0 (xs 1)).1 := congrArg Prod.fst hw
  rw [er_6]
  refine lv_icmp_eq (tgt := 750) hx hb dL_law_209 (by decide) (fun c_7 => ?_) (fun c_7 => ?_)
  · skip
    exact law_tail C0 hA hbA hAf (Nat.le_of_ble_eq_true rfl) (Nat.le_of_ble_eq_true rfl) hS (lv_sub hl [0, 1, 2, 3] rfl)
  · skip
    exact absurd rfl c_7
set_option maxHeartbeats 4000000 in
set_option maxRecDepth 100000 in
theorem lc_2 {p : Program} {l : Launch} {e : Env} {s : State} {m : MethodId} {below : List Frame} {meth : Method} {c : Code} {dC : Nat → ClassId} {dI : Nat → Nat → Nat} {cB cI cJ cZ cS cO : ClassId} {b : Nat} {xs : Nat → Int32} {K V : Nat → Nat} {fz : Value} {A : Nat → Prop} {as as0 as1 as2 as3 bs bs0 bs1 bs2 bs3 cr cs cs0 cs1 cs2 cs3 cy ds ds0 ds1 ds2 ds3 mo sm sm0 sm1 sm2 sm3 sm4 sm5 tk tk0 tk1 tk2 tk3 tk4 tp tr tr0 tr1 tr10 tr2 tr3 tr4 tr5 tr6 tr7 tr8 tr9 x0 : Nat} {a : Nat → Nat} (C0 : lw_At p s m meth c b 6 xs) (hZ : zE K V fz A s) (hA : ∀ q : Nat, s.heap.size ≤ q → A q) (hbA : ¬ A b) (hAf : ∀ q : Nat, A q → s.heap.size ≤ q)  (hK : va_K (dC, dI) vwCl [(cB, .byte), (cI, .int), (cJ, .long), (cZ, .boolean), (cS, .object "StreamQueries$Source"), (cO, .object "java/lang/Object")] s) {H : Heap} {locs : List Loc} {ls : Array Slot} (hP : va_P (dC, dI) vwCl [(x0, .inr (12, [.ref tp, .int 0, .ref sm, .ref tk, .int 0, .null, .null, .ref as, .ref bs, .ref cs, .ref ds, .int 0, .ref cr, .ref cy, .int 0, .ref tr])), (sm, .inr (8, [.int 0, .long (-9223372036854775808), .ref sm0, .ref sm1, .ref sm2, .ref sm3, .ref sm4, .ref sm5, .int 0])), (sm0, .inl (cI, 6, .inl (fun _ => 0))), (mo, .inr (13, moF a (fun _ => 0) (-9223372036854775808))), (a 5, .inl (cI, 6, .inl (fun _ => 0)))] H) (hD : va_D A [(x0, .inr (12, [.ref tp, .int 0, .ref sm, .ref tk, .int 0, .null, .null, .ref as, .ref bs, .ref cs, .ref ds, .int 0, .ref cr, .ref cy, .int 0, .ref tr])), (sm, .inr (8, [.int 0, .long (-9223372036854775808), .ref sm0, .ref sm1, .ref sm2, .ref sm3, .ref sm4, .ref sm5, .int 0])), (sm0, .inl (cI, 6, .inl (fun _ => 0))), (mo, .inr (13, moF a (fun _ => 0) (-9223372036854775808))), (a 5, .inl (cI, 6, .inl (fun _ => 0)))]) (hS : va_S A s.heap H locs) (hl : lv_has ls 4 [(0, .ref b), (1, .ref x0), (2, .ref mo), (3, .int 0)]) : W p l e room_1 s m #[Value.ref b] below meth c H locs 127 886803 (lw_Z below #[Value.ref b] s) (F0 m 214 ls []) := by
  obtain ⟨hx, hb, hr, hml, hown, hts, hX, hbl, hlocks, hgv⟩ := id C0
  refine lv_aload_n hx hb dL_law_214 rfl (lv_at hl 1 rfl) ?_
  refine lv_aload_n hx hb dL_law_215 rfl (lv_at hl 0 rfl) ?_
  refine lv_iload_n hx hb dL_law_216 rfl (lv_at hl 3 rfl) ?_
  refine lv_iconst (v := 1) hx hb dL_law_217 (by decide) ?_
  refine lv_iadd hx hb dL_law_218 ?_
  refine lv_topi (fun x_1 ex_1 => ?_)
  have ex_1 : x_1 = 1 := ex_1.trans (by decide)
  subst ex_1
  refine va_sld hx hb hX hbl hbA hS (i := 1) (vp_in_nI (n := 1) (N := 6) (by omega) (by omega)) dL_law_219 ?_
  refine lv_topi (fun x_2 ex_2 => ?_)
  have ex_2 : x_2 = xs 1 := ex_2.trans (congrArg xs (nI_clamp (n := 1) (by omega)))
  rw [ex_2]
  have hPc := hP.sub (ws' := [(x0, .inr (12, [.ref tp, .int 0, .ref sm, .ref tk, .int 0, .null, .null, .ref as, .ref bs, .ref cs, .ref ds, .int 0, .ref cr, .ref cy, .int 0, .ref tr])), (sm, .inr (8, [.int 0, .long (-9223372036854775808), .ref sm0, .ref sm1, .ref sm2, .ref sm3, .ref sm4, .ref sm5, .int 0])), (sm0, .inl (cI, 6, .inl (fun _ => 0)))]) [0, 1, 2] rfl
  have hDc := hD.sub (ws' := [(x0, .inr (12, [.ref tp, .int 0, .ref sm, .ref tk, .int 0, .null, .null, .ref as, .ref bs, .ref cs, .ref ds, .int 0, .ref cr, .ref cy, .int 0, .ref tr])), (sm, .inr (8, [.int 0, .long (-9223372036854775808), .ref sm0, .ref sm1, .ref sm2, .ref sm3, .ref sm4, .ref sm5, .int 0])), (sm0, .inl (cI, 6, .inl (fun _ => 0)))]) [0, 1, 2] (by decide) rfl
  have hKc := hK.sub (tys' := [(cB, .byte), (cI, .int), (cJ, .long), (cZ, .boolean)]) [0, 1, 2, 3] rfl
  have hFc := va_free (wc := [(x0, .inr (12, [.ref tp, .int 0, .ref sm, .ref tk, .int 0, .null, .null, .ref as, .ref bs, .ref cs, .ref ds, .int 0, .ref cr, .ref cy, .int 0, .ref tr])), (sm, .inr (8, [.int 0, .long (-9223372036854775808), .ref sm0, .ref sm1, .ref sm2, .ref sm3, .ref sm4, .ref sm5, .int 0])), (sm0, .inl (cI, 6, .inl (fun _ => 0)))]) hD hS hA [0, 1, 2] rfl
  refine va_calli (va_runV (As := [.int (xs 1)]) (rest := []) ⟨hx, hb, hml, hown, hts⟩ (t_X11_stream l dC dI H.size cB cI cJ cZ x0 sm sm0 0 (fun _ => 0) (-9223372036854775808) (.ref sm1) (.ref sm2) (.ref sm3) (.ref sm4) (.ref sm5) 0 (.ref tp) (.ref tk) .null .null (.ref as) (.ref bs) (.ref cs) (.ref ds) (.ref cr) (.ref cy) (.ref tr) 0 0 0 0 (xs 1) (by omega)) (cwV 1 hts (gd_law (in_V kw_489 kw_490 kw_491 kw_181 kc_X11_stream)) rfl rfl rfl (by decide +kernel) ⟨Nat.le_of_ble_eq_true rfl, Nat.le_of_ble_eq_true rfl⟩) ⟨fun a U g mk q => by obtain ⟨q0, q1, qP, qK, qD⟩ := q; exact ⟨q0, q1, qP, va_K.moved (u := U) (U := U.calling g mk a) (Vm.Alike.refl U.vm) qK, qD⟩, va_recv hKc hPc (ci := 12) (q0 := 0) rfl rfl, fun U hU hW => ⟨rfl, by rw [hU], by rw [hU]; exact hPc, va_K.moved hW.alike hKc, hDc.weaken (fun _ _ _ _ => trivial)⟩⟩ rfl rfl hl.1 rfl (lv_room (Nat.le_of_ble_eq_true rfl)) dL_law_220 ⟨Nat.le_of_ble_eq_true rfl, Nat.le_of_ble_eq_true rfl⟩) hS (fun q _ h => hFc q h) hFc (fun r_3 u t_ H1 locs ht hvm hw hB hz1 hk1 hS => ?_)
  obtain ⟨t2, g2⟩ := u
  obtain ⟨hP1, hK1, hD1⟩ := hB
  obtain ⟨hw, -⟩ := hw
  rw [ht] at hP1
  have hK1 := va_K.moved hvm.symm hK1
  obtain ⟨hP, hD⟩ := va_join (wr := [(mo, .inr (13, moF a (fun _ => 0) (-9223372036854775808))), (a 5, .inl (cI, 6, .inl (fun _ => 0)))]) (w1 := [(x0, .inr (12, [.ref tp, .int 0, .ref sm, .ref tk, .int 0, .null, .null, .ref as, .ref bs, .ref cs, .ref ds, .int 0, .ref cr, .ref cy, .int 0, .ref tr])), (sm, .inr (8, [.int (nI t2), .long (-9223372036854775808), .ref sm0, .ref sm1, .ref sm2, .ref sm3, .ref sm4, .ref sm5, .int 0])), (sm0, .inl (cI, 6, .inl g2))]) hP hD [0, 1, 2] [3, 4] rfl rfl (by decide) (by decide) hk1 hFc hP1 hD1
  have hK := (hK.sub (tys' := [(cS, .object "StreamQueries$Source"), (cO, .object "java/lang/Object")]) [4, 5] rfl).app hK1
  generalize H1 = H at hP hS ⊢
  have hP : va_P (dC, dI) vwCl [(mo, .inr (13, moF a (fun _ => 0) (-9223372036854775808))), (a 5, .inl (cI, 6, .inl (fun _ => 0))), (x0, .inr (12, [.ref tp, .int 0, .ref sm, .ref tk, .int 0, .null, .null, .ref as, .ref bs, .ref cs, .ref ds, .int 0, .ref cr, .ref cy, .int 0, .ref tr])), (sm, .inr (8, [.int (nI t2), .long (-9223372036854775808), .ref sm0, .ref sm1, .ref sm2, .ref sm3, .ref sm4, .ref sm5, .int 0])), (sm0, .inl (cI, 6, .inl g2))] H := hP
  have hD : va_D A [(mo, .inr (13, moF a (fun _ => 0) (-9223372036854775808))), (a 5, .inl (cI, 6, .inl (fun _ => 0))), (x0, .inr (12, [.ref tp, .int 0, .ref sm, .ref tk, .int 0, .null, .null, .ref as, .ref bs, .ref cs, .ref ds, .int 0, .ref cr, .ref cy, .int 0, .ref tr])), (sm, .inr (8, [.int (nI t2), .long (-9223372036854775808), .ref sm0, .ref sm1, .ref sm2, .ref sm3, .ref sm4, .ref sm5, .int 0])), (sm0, .inl (cI, 6, .inl g2))] := hD
  have hK : va_K (dC, dI) vwCl [(cS, .object "StreamQueries$Source"), (cO, .object "java/lang/Object"), (cB, .byte), (cI, .int), (cJ, .long), (cZ, .boolean)] s := hK
  have er_3 : r_3 = strR 0 (xs 1) := hw
  rw [er_3]
  refine lv_aload_n hx hb dL_law_223 rfl (lv_at hl 2 rfl) ?_
  refine lv_aload_n hx hb dL_law_224 rfl (lv_at hl 0 rfl) ?_
  refine lv_iload_n hx hb dL_law_225 rfl (lv_at hl 3 rfl) ?_
  refine lv_iconst (v := 1) hx hb dL_law_226 (by decide) ?_
  refine lv_iadd hx hb dL_law_227 ?_
  refine lv_topi (fun x_4 ex_4 => ?_)
  have ex_4 : x_4 = 1 := ex_4.trans (by decide)
  subst ex_4
  refine va_sld hx hb hX hbl hbA hS (i := 1) (vp_in_nI (n := 1) (N := 6) (by omega) (by omega)) dL_law_228 ?_
  refine lv_topi (fun x_5 ex_5 => ?_)
  have ex_5 : x_5 = xs 1 := ex_5.trans (congrArg xs (nI_clamp (n := 1) (by omega)))
  rw [ex_5]
  have hPc := hP.sub (ws' := [(mo, .inr (13, moF a (fun _ => 0) (-9223372036854775808))), (a 5, .inl (cI, 6, .inl (fun _ => 0)))]) [0, 1] rfl
  have hDc := hD.sub (ws' := [(mo, .inr (13, moF a (fun _ => 0) (-9223372036854775808))), (a 5, .inl (cI, 6, .inl (fun _ => 0)))]) [0, 1] (by decide) rfl
  have hKc := hK.sub (tys' := [(cB, .byte), (cI, .int), (cJ, .long), (cZ, .boolean)]) [2, 3, 4, 5] rfl
  have hFc := va_free (wc := [(mo, .inr (13, moF a (fun _ => 0) (-9223372036854775808))), (a 5, .inl (cI, 6, .inl (fun _ => 0)))]) hD hS hA [0, 1] rfl
  refine va_calli (va_runV (As := [.int (xs 1)]) (rest := [.int (strR 0 (xs 1))]) ⟨hx, hb, hml, hown, hts⟩ (t_X12_stream l dC dI H.size cB cI cJ cZ mo a 0 (fun _ => 0) (fun _ => 0) (-9223372036854775808) (xs 1) (by omega)) (cwV 1 hts (gd_law (in_V kw_2050 kw_2051 kw_2052 kw_191 kc_X12_stream)) rfl rfl rfl (by decide +kernel) ⟨Nat.le_of_ble_eq_true rfl, Nat.le_of_ble_eq_true rfl⟩) ⟨fun a U g mk q => by obtain ⟨q0, q1, qP, qK, qD⟩ := q; exact ⟨q0, q1, qP, va_K.moved (u := U) (U := U.calling g mk a) (Vm.Alike.refl U.vm) qK, qD⟩, va_recv hKc hPc (ci := 13) (q0 := 0) rfl rfl, fun U hU hW => ⟨rfl, by rw [hU], by rw [hU]; exact hPc, va_K.moved hW.alike hKc, hDc.weaken (fun _ _ _ _ => trivial)⟩⟩ rfl rfl hl.1 rfl (lv_room (Nat.le_of_ble_eq_true rfl)) dL_law_229 ⟨Nat.le_of_ble_eq_true rfl, Nat.le_of_ble_eq_true rfl⟩) hS (fun q _ h => hFc q h) hFc (fun r_6 u t_ H1 locs ht hvm hw hB hz1 hk1 hS => ?_)
  obtain ⟨t3, g3⟩ := u
  obtain ⟨hP1, hK1, hD1⟩ := hB
  obtain ⟨hw, -⟩ := hw
  rw [ht] at hP1
  have hK1 := va_K.moved hvm.symm hK1
  obtain ⟨hP, hD⟩ := va_join (wr := [(x0, .inr (12, [.ref tp, .int 0, .ref sm, .ref tk, .int 0, .null, .null, .ref as, .ref bs, .ref cs, .ref ds, .int 0, .ref cr, .ref cy, .int 0, .ref tr])), (sm, .inr (8, [.int (nI t2), .long (-9223372036854775808), .ref sm0, .ref sm1, .ref sm2, .ref sm3, .ref sm4, .ref sm5, .int 0])), (sm0, .inl (cI, 6, .inl g2))]) (w1 := [(mo, .inr (13, moF a (upd (fun _ => 0) 4 (nI t3)) (-9223372036854775808))), (a 5, .inl (cI, 6, .inl g3))]) hP hD [0, 1] [2, 3, 4] rfl rfl (by decide) (by decide) hk1 hFc hP1 hD1
  have hK := (hK.sub (tys' := [(cS, .object "StreamQueries$Source"), (cO, .object "java/lang/Object")]) [0, 1] rfl).app hK1
  generalize H1 = H at hP hS ⊢
  have hP : va_P (dC, dI) vwCl [(x0, .inr (12, [.ref tp, .int 0, .ref sm, .ref tk, .int 0, .null, .null, .ref as, .ref bs, .ref cs, .ref ds, .int 0, .ref cr, .ref cy, .int 0, .ref tr])), (sm, .inr (8, [.int (nI t2), .long (-9223372036854775808), .ref sm0, .ref sm1, .ref sm2, .ref sm3, .ref sm4, .ref sm5, .int 0])), (sm0, .inl (cI, 6, .inl g2)), (mo, .inr (13, moF a (upd (fun _ => 0) 4 (nI t3)) (-9223372036854775808))), (a 5, .inl (cI, 6, .inl g3))] H := hP
  have hD : va_D A [(x0, .inr (12, [.ref tp, .int 0, .ref sm, .ref tk, .int 0, .null, .null, .ref as, .ref bs, .ref cs, .ref ds, .int 0, .ref cr, .ref cy, .int 0, .ref tr])), (sm, .inr (8, [.int (nI t2), .long (-9223372036854775808), .ref sm0, .ref sm1, .ref sm2, .ref sm3, .ref sm4, .ref sm5, .int 0])), (sm0, .inl (cI, 6, .inl g2)), (mo, .inr (13, moF a (upd (fun _ => 0) 4 (nI t3)) (-9223372036854775808))), (a 5, .inl (cI, 6, .inl g3))] := hD
  have hK : va_K (dC, dI) vwCl [(cS, .object "StreamQueries$Source"), (cO, .object "java/lang/Object"), (cB, .byte), (cI, .int), (cJ, .long), (cZ, .boolean)] s := hK
  have er_6 : r_6 = strR 0 (xs 1) := hw
  rw [er_6]
  refine lv_icmp_eq (tgt := 750) hx hb dL_law_232 (by decide) (fun c_7 => ?_) (fun c_7 => ?_)
  · skip
    exact law_tail C0 hA hbA hAf (Nat.le_of_ble_eq_true rfl) (Nat.le_of_ble_eq_true rfl) hS (lv_sub hl [0, 1, 2, 3] rfl)
  · skip
    exact absurd rfl c_7
set_option maxHeartbeats 4000000 in
set_option maxRecDepth 100000 in
theorem lc_3 {p : Program} {l : Launch} {e : Env} {s : State} {m : MethodId} {below : List Frame} {meth : Method} {c : Code} {dC : Nat → ClassId} {dI : Nat → Nat → Nat} {cB cI cJ cZ cS cO : ClassId} {b : Nat} {xs : Nat → Int32} {K V : Nat → Nat} {fz : Value} {A : Nat → Prop} {as as0 as1 as2 as3 bs bs0 bs1 bs2 bs3 cr cs cs0 cs1 cs2 cs3 cy ds ds0 ds1 ds2 ds3 mo sm sm0 sm1 sm2 sm3 sm4 sm5 tk tk0 tk1 tk2 tk3 tk4 tp tr tr0 tr1 tr10 tr2 tr3 tr4 tr5 tr6 tr7 tr8 tr9 x0 : Nat} {a : Nat → Nat} (C0 : lw_At p s m meth c b 6 xs) (hZ : zE K V fz A s) (hA : ∀ q : Nat, s.heap.size ≤ q → A q) (hbA : ¬ A b) (hAf : ∀ q : Nat, A q → s.heap.size ≤ q)  (hK : va_K (dC, dI) vwCl [(cB, .byte), (cI, .int), (cJ, .long), (cZ, .boolean), (cS, .object "StreamQueries$Source"), (cO, .object "java/lang/Object")] s) {H : Heap} {locs : List Loc} {ls : Array Slot} (hP : va_P (dC, dI) vwCl [(x0, .inr (12, [.ref tp, .int 0, .ref sm, .ref tk, .int 0, .null, .null, .ref as, .ref bs, .ref cs, .ref ds, .int 0, .ref cr, .ref cy, .int 0, .ref tr])), (tp, .inl (cB, 2000, .inl (fun _ => 0))), (tk, .inr (11, [.ref tk0, .ref tk1, .ref tk2, .ref tk3, .int 0, .int 0, .ref tk4])), (tk0, .inl (cI, 2001, .inl (fun _ => 0))), (tk1, .inl (cI, 2001, .inl (fun _ => 0))), (tk2, .inl (cJ, 2001, .inr (.inl (fun _ => 0)))), (tk4, .inl (cJ, 39, .inr (.inl ((tcA 203).2.2)))), (mo, .inr (13, moF a (fun _ => 0) (-9223372036854775808))), (a 2, .inl (cB, 2000, .inl (fun _ => 0))), (a 14, .inl (cI, 2001, .inl (fun _ => 0))), (a 15, .inl (cI, 2001, .inl (fun _ => 0))), (a 16, .inl (cI, 2001, .inl (fun _ => 0))), (a 17, .inl (cJ, 2001, .inr (.inl (fun _ => 0)))), (a 35, .inl (cI, 60, .inl (fun _ => 0))), (a 36, .inl (cI, 60, .inl (fun _ => 0))), (a 37, .inl (cI, 60, .inl (fun _ => 0))), (a 38, .inl (cI, 60, .inl (fun _ => 0))), (a 39, .inl (cI, 60, .inl (fun _ => 0))), (a 40, .inl (cI, 60, .inl (fun _ => 0))), (a 41, .inl (cI, 60, .inl (fun _ => 0))), (a 42, .inl (cI, 60, .inl (fun _ => 0))), (a 43, .inl (cI, 60, .inl (fun _ => 0))), (a 60, .inl (cI, 60, .inl (fun _ => 0))), (a 64, .inl (cI, 60, .inl (fun _ => 0))), (a 65, .inl (cI, 60, .inl (fun _ => 0))), (a 68, .inl (cI, 60, .inl (fun _ => 0)))] H) (hD : va_D A [(x0, .inr (12, [.ref tp, .int 0, .ref sm, .ref tk, .int 0, .null, .null, .ref as, .ref bs, .ref cs, .ref ds, .int 0, .ref cr, .ref cy, .int 0, .ref tr])), (tp, .inl (cB, 2000, .inl (fun _ => 0))), (tk, .inr (11, [.ref tk0, .ref tk1, .ref tk2, .ref tk3, .int 0, .int 0, .ref tk4])), (tk0, .inl (cI, 2001, .inl (fun _ => 0))), (tk1, .inl (cI, 2001, .inl (fun _ => 0))), (tk2, .inl (cJ, 2001, .inr (.inl (fun _ => 0)))), (tk4, .inl (cJ, 39, .inr (.inl ((tcA 203).2.2)))), (mo, .inr (13, moF a (fun _ => 0) (-9223372036854775808))), (a 2, .inl (cB, 2000, .inl (fun _ => 0))), (a 14, .inl (cI, 2001, .inl (fun _ => 0))), (a 15, .inl (cI, 2001, .inl (fun _ => 0))), (a 16, .inl (cI, 2001, .inl (fun _ => 0))), (a 17, .inl (cJ, 2001, .inr (.inl (fun _ => 0)))), (a 35, .inl (cI, 60, .inl (fun _ => 0))), (a 36, .inl (cI, 60, .inl (fun _ => 0))), (a 37, .inl (cI, 60, .inl (fun _ => 0))), (a 38, .inl (cI, 60, .inl (fun _ => 0))), (a 39, .inl (cI, 60, .inl (fun _ => 0))), (a 40, .inl (cI, 60, .inl (fun _ => 0))), (a 41, .inl (cI, 60, .inl (fun _ => 0))), (a 42, .inl (cI, 60, .inl (fun _ => 0))), (a 43, .inl (cI, 60, .inl (fun _ => 0))), (a 60, .inl (cI, 60, .inl (fun _ => 0))), (a 64, .inl (cI, 60, .inl (fun _ => 0))), (a 65, .inl (cI, 60, .inl (fun _ => 0))), (a 68, .inl (cI, 60, .inl (fun _ => 0)))]) (hS : va_S A s.heap H locs) (hl : lv_has ls 4 [(0, .ref b), (1, .ref x0), (2, .ref mo), (3, .int 0)]) : W p l e room_1 s m #[Value.ref b] below meth c H locs 127 886803 (lw_Z below #[Value.ref b] s) (F0 m 237 ls []) := by
  obtain ⟨hx, hb, hr, hml, hown, hts, hX, hbl, hlocks, hgv⟩ := id C0
  refine lv_aload_n hx hb dL_law_237 rfl (lv_at hl 1 rfl) ?_
  have hPc := hP.sub (ws' := [(x0, .inr (12, [.ref tp, .int 0, .ref sm, .ref tk, .int 0, .null, .null, .ref as, .ref bs, .ref cs, .ref ds, .int 0, .ref cr, .ref cy, .int 0, .ref tr])), (tk, .inr (11, [.ref tk0, .ref tk1, .ref tk2, .ref tk3, .int 0, .int 0, .ref tk4])), (tp, .inl (cB, 2000, .inl (fun _ => 0))), (tk0, .inl (cI, 2001, .inl (fun _ => 0))), (tk2, .inl (cJ, 2001, .inr (.inl (fun _ => 0)))), (tk4, .inl (cJ, 39, .inr (.inl ((tcA 203).2.2)))), (tk1, .inl (cI, 2001, .inl (fun _ => 0)))]) [0, 2, 1, 3, 5, 6, 4] rfl
  have hDc := hD.sub (ws' := [(x0, .inr (12, [.ref tp, .int 0, .ref sm, .ref tk, .int 0, .null, .null, .ref as, .ref bs, .ref cs, .ref ds, .int 0, .ref cr, .ref cy, .int 0, .ref tr])), (tk, .inr (11, [.ref tk0, .ref tk1, .ref tk2, .ref tk3, .int 0, .int 0, .ref tk4])), (tp, .inl (cB, 2000, .inl (fun _ => 0))), (tk0, .inl (cI, 2001, .inl (fun _ => 0))), (tk2, .inl (cJ, 2001, .inr (.inl (fun _ => 0)))), (tk4, .inl (cJ, 39, .inr (.inl ((tcA 203).2.2)))), (tk1, .inl (cI, 2001, .inl (fun _ => 0)))]) [0, 2, 1, 3, 5, 6, 4] (by decide) rfl
  have hKc := hK.sub (tys' := [(cB, .byte), (cI, .int), (cJ, .long), (cZ, .boolean), (cS, .object "StreamQueries$Source"), (cO, .object "java/lang/Object")]) [0, 1, 2, 3, 4, 5] rfl
  have hFc := va_free (wc := [(x0, .inr (12, [.ref tp, .int 0, .ref sm, .ref tk, .int 0, .null, .null, .ref as, .ref bs, .ref cs, .ref ds, .int 0, .ref cr, .ref cy, .int 0, .ref tr])), (tk, .inr (11, [.ref tk0, .ref tk1, .ref tk2, .ref tk3, .int 0, .int 0, .ref tk4])), (tp, .inl (cB, 2000, .inl (fun _ => 0))), (tk0, .inl (cI, 2001, .inl (fun _ => 0))), (tk2, .inl (cJ, 2001, .inr (.inl (fun _ => 0)))), (tk4, .inl (cJ, 39, .inr (.inl ((tcA 203).2.2)))), (tk1, .inl (cI, 2001, .inl (fun _ => 0)))]) hD hS hA [0, 2, 1, 3, 5, 6, 4] rfl
  refine va_calli (va_runV (As := []) (rest := []) ⟨hx, hb, hml, hown, hts⟩ (t_X11_query_e l dC dI H.size cB cI cJ cZ cS cO x0 (.ref sm) .null .null (.ref as) (.ref bs) (.ref cs) (.ref ds) (.ref cr) (.ref cy) (.ref tr) 0 0 0 tk tp tk0 tk1 tk2 tk4 0 0 (fun _ => 0) (fun _ => 0) (fun _ => 0) (fun _ => 0) ((tcA 203).2.2) (.ref tk3) 0 0 K V fz (by omega) sb_fit0 rfl (by rw [kiF_00]; decide) (by rw [kiF_00]; decide)) (cwV 0 hts (gd_law (in_V kw_497 kw_498 kw_499 kw_181 kc_X11_query)) rfl rfl rfl (by decide +kernel) ⟨Nat.le_of_ble_eq_true rfl, Nat.le_of_ble_eq_true rfl⟩) ⟨fun a U g mk q => by obtain ⟨q0, q1, qP, qK, qD, qZ⟩ := q; exact ⟨q0, q1, qP, va_K.moved (u := U) (U := U.calling g mk a) (Vm.Alike.refl U.vm) qK, qD, zE.same (u := U) (U := U.calling g mk a) rfl rfl qZ⟩, va_recv hKc hPc (ci := 12) (q0 := 0) rfl rfl, fun U hU hW => ⟨rfl, by rw [hU], by rw [hU]; exact hPc, va_K.moved hW.alike hKc, hDc.weaken (fun _ _ _ _ => trivial), zE.go hZ hS hU hW hFc⟩⟩ rfl rfl hl.1 rfl (lv_room (Nat.le_of_ble_eq_true rfl)) dL_law_238 ⟨Nat.le_of_ble_eq_true rfl, Nat.le_of_ble_eq_true rfl⟩) hS (fun q _ h => hFc q h) hFc (fun r_1 u t_ H1 locs ht hvm hw hB hz1 hk1 hS => ?_)
  obtain ⟨i2, hi2⟩ : ∃ z : Nat, z = u := ⟨u, rfl⟩
  subst hi2
  obtain ⟨hP1, hK1, hD1⟩ := hB
  rw [ht] at hP1
  have hK1 := va_K.moved hvm.symm hK1
  obtain ⟨hP, hD⟩ := va_join (wr := [(mo, .inr (13, moF a (fun _ => 0) (-9223372036854775808))), (a 2, .inl (cB, 2000, .inl (fun _ => 0))), (a 14, .inl (cI, 2001, .inl (fun _ => 0))), (a 15, .inl (cI, 2001, .inl (fun _ => 0))), (a 16, .inl (cI, 2001, .inl (fun _ => 0))), (a 17, .inl (cJ, 2001, .inr (.inl (fun _ => 0)))), (a 35, .inl (cI, 60, .inl (fun _ => 0))), (a 36, .inl (cI, 60, .inl (fun _ => 0))), (a 37, .inl (cI, 60, .inl (fun _ => 0))), (a 38, .inl (cI, 60, .inl (fun _ => 0))), (a 39, .inl (cI, 60, .inl (fun _ => 0))), (a 40, .inl (cI, 60, .inl (fun _ => 0))), (a 41, .inl (cI, 60, .inl (fun _ => 0))), (a 42, .inl (cI, 60, .inl (fun _ => 0))), (a 43, .inl (cI, 60, .inl (fun _ => 0))), (a 60, .inl (cI, 60, .inl (fun _ => 0))), (a 64, .inl (cI, 60, .inl (fun _ => 0))), (a 65, .inl (cI, 60, .inl (fun _ => 0))), (a 68, .inl (cI, 60, .inl (fun _ => 0)))]) (w1 := [(x0, .inr (12, [.ref tp, .int 0, .ref sm, .ref tk, .int 1, .null, .null, .ref as, .ref bs, .ref cs, .ref ds, .int 0, .ref cr, .ref cy, .int 0, .ref tr])), (tk, .inr (11, [.ref tk0, .ref tk1, .ref tk2, .ref tp, .int (nI 0), .int (nI (psF (fun _ => 0) 0 ((tcA 203).2.2) i2)), .ref tk4])), (tp, .inl (cB, 2000, .inl (fun _ => 0))), (tk0, .inl (cI, 2001, .inl (laid (fun _ => 0) (kiF (fun _ => 0) 0 ((tcA 203).2.2)) i2))), (tk2, .inl (cJ, 2001, .inr (.inl (laidL (fun _ => 0) (nbF (fun _ => 0) 0 ((tcA 203).2.2)) i2)))), (tk4, .inl (cJ, 39, .inr (.inl ((tcA 203).2.2)))), (tk1, .inl (cI, 2001, .inl (laid (fun _ => 0) (fun j => nI (plF (fun _ => 0) 0 ((tcA 203).2.2) j)) i2)))]) hP hD [0, 2, 1, 3, 5, 6, 4] [7, 8, 9, 10, 11, 12, 13, 14, 15, 16, 17, 18, 19, 20, 21, 22, 23, 24, 25] rfl rfl (by decide) (by decide) hk1 hFc hP1 hD1
  have hK := (hK.sub (tys' := []) [] rfl).app hK1
  generalize H1 = H at hP hS ⊢
  have hP : va_P (dC, dI) vwCl [(mo, .inr (13, moF a (fun _ => 0) (-9223372036854775808))), (a 2, .inl (cB, 2000, .inl (fun _ => 0))), (a 14, .inl (cI, 2001, .inl (fun _ => 0))), (a 15, .inl (cI, 2001, .inl (fun _ => 0))), (a 16, .inl (cI, 2001, .inl (fun _ => 0))), (a 17, .inl (cJ, 2001, .inr (.inl (fun _ => 0)))), (a 35, .inl (cI, 60, .inl (fun _ => 0))), (a 36, .inl (cI, 60, .inl (fun _ => 0))), (a 37, .inl (cI, 60, .inl (fun _ => 0))), (a 38, .inl (cI, 60, .inl (fun _ => 0))), (a 39, .inl (cI, 60, .inl (fun _ => 0))), (a 40, .inl (cI, 60, .inl (fun _ => 0))), (a 41, .inl (cI, 60, .inl (fun _ => 0))), (a 42, .inl (cI, 60, .inl (fun _ => 0))), (a 43, .inl (cI, 60, .inl (fun _ => 0))), (a 60, .inl (cI, 60, .inl (fun _ => 0))), (a 64, .inl (cI, 60, .inl (fun _ => 0))), (a 65, .inl (cI, 60, .inl (fun _ => 0))), (a 68, .inl (cI, 60, .inl (fun _ => 0))), (x0, .inr (12, [.ref tp, .int 0, .ref sm, .ref tk, .int 1, .null, .null, .ref as, .ref bs, .ref cs, .ref ds, .int 0, .ref cr, .ref cy, .int 0, .ref tr])), (tk, .inr (11, [.ref tk0, .ref tk1, .ref tk2, .ref tp, .int (nI 0), .int (nI (psF (fun _ => 0) 0 ((tcA 203).2.2) i2)), .ref tk4])), (tp, .inl (cB, 2000, .inl (fun _ => 0))), (tk0, .inl (cI, 2001, .inl (laid (fun _ => 0) (kiF (fun _ => 0) 0 ((tcA 203).2.2)) i2))), (tk2, .inl (cJ, 2001, .inr (.inl (laidL (fun _ => 0) (nbF (fun _ => 0) 0 ((tcA 203).2.2)) i2)))), (tk4, .inl (cJ, 39, .inr (.inl ((tcA 203).2.2)))), (tk1, .inl (cI, 2001, .inl (laid (fun _ => 0) (fun j => nI (plF (fun _ => 0) 0 ((tcA 203).2.2) j)) i2)))] H := hP
  have hD : va_D A [(mo, .inr (13, moF a (fun _ => 0) (-9223372036854775808))), (a 2, .inl (cB, 2000, .inl (fun _ => 0))), (a 14, .inl (cI, 2001, .inl (fun _ => 0))), (a 15, .inl (cI, 2001, .inl (fun _ => 0))), (a 16, .inl (cI, 2001, .inl (fun _ => 0))), (a 17, .inl (cJ, 2001, .inr (.inl (fun _ => 0)))), (a 35, .inl (cI, 60, .inl (fun _ => 0))), (a 36, .inl (cI, 60, .inl (fun _ => 0))), (a 37, .inl (cI, 60, .inl (fun _ => 0))), (a 38, .inl (cI, 60, .inl (fun _ => 0))), (a 39, .inl (cI, 60, .inl (fun _ => 0))), (a 40, .inl (cI, 60, .inl (fun _ => 0))), (a 41, .inl (cI, 60, .inl (fun _ => 0))), (a 42, .inl (cI, 60, .inl (fun _ => 0))), (a 43, .inl (cI, 60, .inl (fun _ => 0))), (a 60, .inl (cI, 60, .inl (fun _ => 0))), (a 64, .inl (cI, 60, .inl (fun _ => 0))), (a 65, .inl (cI, 60, .inl (fun _ => 0))), (a 68, .inl (cI, 60, .inl (fun _ => 0))), (x0, .inr (12, [.ref tp, .int 0, .ref sm, .ref tk, .int 1, .null, .null, .ref as, .ref bs, .ref cs, .ref ds, .int 0, .ref cr, .ref cy, .int 0, .ref tr])), (tk, .inr (11, [.ref tk0, .ref tk1, .ref tk2, .ref tp, .int (nI 0), .int (nI (psF (fun _ => 0) 0 ((tcA 203).2.2) i2)), .ref tk4])), (tp, .inl (cB, 2000, .inl (fun _ => 0))), (tk0, .inl (cI, 2001, .inl (laid (fun _ => 0) (kiF (fun _ => 0) 0 ((tcA 203).2.2)) i2))), (tk2, .inl (cJ, 2001, .inr (.inl (laidL (fun _ => 0) (nbF (fun _ => 0) 0 ((tcA 203).2.2)) i2)))), (tk4, .inl (cJ, 39, .inr (.inl ((tcA 203).2.2)))), (tk1, .inl (cI, 2001, .inl (laid (fun _ => 0) (fun j => nI (plF (fun _ => 0) 0 ((tcA 203).2.2) j)) i2)))] := hD
  have hK : va_K (dC, dI) vwCl [(cB, .byte), (cI, .int), (cJ, .long), (cZ, .boolean), (cS, .object "StreamQueries$Source"), (cO, .object "java/lang/Object")] s := hK
  have er_1 : r_1 = (-10) := hw.trans (by rw [plF_00]; decide)
  rw [er_1]
  refine lv_aload_n hx hb dL_law_241 rfl (lv_at hl 2 rfl) ?_
  have hPc := hP.sub (ws' := [(mo, .inr (13, moF a (fun _ => 0) (-9223372036854775808))), (a 2, .inl (cB, 2000, .inl (fun _ => 0))), (a 14, .inl (cI, 2001, .inl (fun _ => 0))), (a 15, .inl (cI, 2001, .inl (fun _ => 0))), (a 16, .inl (cI, 2001, .inl (fun _ => 0))), (a 17, .inl (cJ, 2001, .inr (.inl (fun _ => 0)))), (a 36, .inl (cI, 60, .inl (fun _ => 0))), (a 37, .inl (cI, 60, .inl (fun _ => 0))), (a 38, .inl (cI, 60, .inl (fun _ => 0))), (a 39, .inl (cI, 60, .inl (fun _ => 0))), (a 40, .inl (cI, 60, .inl (fun _ => 0))), (a 41, .inl (cI, 60, .inl (fun _ => 0))), (a 42, .inl (cI, 60, .inl (fun _ => 0))), (a 43, .inl (cI, 60, .inl (fun _ => 0))), (a 35, .inl (cI, 60, .inl (fun _ => 0))), (a 60, .inl (cI, 60, .inl (fun _ => 0))), (a 64, .inl (cI, 60, .inl (fun _ => 0))), (a 68, .inl (cI, 60, .inl (fun _ => 0))), (a 65, .inl (cI, 60, .inl (fun _ => 0)))]) [0, 1, 2, 3, 4, 5, 7, 8, 9, 10, 11, 12, 13, 14, 6, 15, 16, 18, 17] rfl
  have hDc := hD.sub (ws' := [(mo, .inr (13, moF a (fun _ => 0) (-9223372036854775808))), (a 2, .inl (cB, 2000, .inl (fun _ => 0))), (a 14, .inl (cI, 2001, .inl (fun _ => 0))), (a 15, .inl (cI, 2001, .inl (fun _ => 0))), (a 16, .inl (cI, 2001, .inl (fun _ => 0))), (a 17, .inl (cJ, 2001, .inr (.inl (fun _ => 0)))), (a 36, .inl (cI, 60, .inl (fun _ => 0))), (a 37, .inl (cI, 60, .inl (fun _ => 0))), (a 38, .inl (cI, 60, .inl (fun _ => 0))), (a 39, .inl (cI, 60, .inl (fun _ => 0))), (a 40, .inl (cI, 60, .inl (fun _ => 0))), (a 41, .inl (cI, 60, .inl (fun _ => 0))), (a 42, .inl (cI, 60, .inl (fun _ => 0))), (a 43, .inl (cI, 60, .inl (fun _ => 0))), (a 35, .inl (cI, 60, .inl (fun _ => 0))), (a 60, .inl (cI, 60, .inl (fun _ => 0))), (a 64, .inl (cI, 60, .inl (fun _ => 0))), (a 68, .inl (cI, 60, .inl (fun _ => 0))), (a 65, .inl (cI, 60, .inl (fun _ => 0)))]) [0, 1, 2, 3, 4, 5, 7, 8, 9, 10, 11, 12, 13, 14, 6, 15, 16, 18, 17] (by decide) rfl
  have hKc := hK.sub (tys' := [(cB, .byte), (cI, .int), (cJ, .long), (cZ, .boolean)]) [0, 1, 2, 3] rfl
  have hFc := va_free (wc := [(mo, .inr (13, moF a (fun _ => 0) (-9223372036854775808))), (a 2, .inl (cB, 2000, .inl (fun _ => 0))), (a 14, .inl (cI, 2001, .inl (fun _ => 0))), (a 15, .inl (cI, 2001, .inl (fun _ => 0))), (a 16, .inl (cI, 2001, .inl (fun _ => 0))), (a 17, .inl (cJ, 2001, .inr (.inl (fun _ => 0)))), (a 36, .inl (cI, 60, .inl (fun _ => 0))), (a 37, .inl (cI, 60, .inl (fun _ => 0))), (a 38, .inl (cI, 60, .inl (fun _ => 0))), (a 39, .inl (cI, 60, .inl (fun _ => 0))), (a 40, .inl (cI, 60, .inl (fun _ => 0))), (a 41, .inl (cI, 60, .inl (fun _ => 0))), (a 42, .inl (cI, 60, .inl (fun _ => 0))), (a 43, .inl (cI, 60, .inl (fun _ => 0))), (a 35, .inl (cI, 60, .inl (fun _ => 0))), (a 60, .inl (cI, 60, .inl (fun _ => 0))), (a 64, .inl (cI, 60, .inl (fun _ => 0))), (a 68, .inl (cI, 60, .inl (fun _ => 0))), (a 65, .inl (cI, 60, .inl (fun _ => 0)))]) hD hS hA [0, 1, 2, 3, 4, 5, 7, 8, 9, 10, 11, 12, 13, 14, 6, 15, 16, 18, 17] rfl
  refine va_calli (va_runV (As := []) (rest := [.int (-10)]) ⟨hx, hb, hml, hown, hts⟩ (t_X12_query_0 l dC dI H.size cB cI cJ cZ mo a (fun _ => 0) (-9223372036854775808) (fun _ => 0) (fun _ => 0) (fun _ => 0) (fun _ => 0) (fun _ => 0) (fun _ _ => 0) (fun _ _ => 0) K V fz rfl) (cwV 0 hts (gd_law (in_V kw_2217 kw_2218 kw_2219 kw_191 kc_X12_query)) rfl rfl rfl (by decide +kernel) ⟨Nat.le_of_ble_eq_true rfl, Nat.le_of_ble_eq_true rfl⟩) ⟨fun a U g mk q => by obtain ⟨q0, q1, qP, qK, qD, qZ⟩ := q; exact ⟨q0, q1, qP, va_K.moved (u := U) (U := U.calling g mk a) (Vm.Alike.refl U.vm) qK, qD, zE.same (u := U) (U := U.calling g mk a) rfl rfl qZ⟩, va_recv hKc hPc (ci := 13) (q0 := 0) rfl rfl, fun U hU hW => ⟨rfl, by rw [hU], by rw [hU]; exact hPc, va_K.moved hW.alike hKc, hDc.weaken (fun _ _ _ _ => trivial), zE.go hZ hS hU hW hFc⟩⟩ rfl rfl hl.1 rfl (lv_room (Nat.le_of_ble_eq_true rfl)) dL_law_242 ⟨Nat.le_of_ble_eq_true rfl, Nat.le_of_ble_eq_true rfl⟩) hS (fun q _ h => hFc q h) hFc (fun r_2 u t_ H1 locs ht hvm hw hB hz1 hk1 hS => ?_)
  obtain ⟨hP1, hK1, hD1⟩ := hB
  rw [ht] at hP1
  have hK1 := va_K.moved hvm.symm hK1
  obtain ⟨hP, hD⟩ := va_join (wr := [(x0, .inr (12, [.ref tp, .int 0, .ref sm, .ref tk, .int 1, .null, .null, .ref as, .ref bs, .ref cs, .ref ds, .int 0, .ref cr, .ref cy, .int 0, .ref tr])), (tk, .inr (11, [.ref tk0, .ref tk1, .ref tk2, .ref tp, .int (nI 0), .int (nI (psF (fun _ => 0) 0 ((tcA 203).2.2) i2)), .ref tk4])), (tp, .inl (cB, 2000, .inl (fun _ => 0))), (tk0, .inl (cI, 2001, .inl (laid (fun _ => 0) (kiF (fun _ => 0) 0 ((tcA 203).2.2)) i2))), (tk2, .inl (cJ, 2001, .inr (.inl (laidL (fun _ => 0) (nbF (fun _ => 0) 0 ((tcA 203).2.2)) i2)))), (tk4, .inl (cJ, 39, .inr (.inl ((tcA 203).2.2)))), (tk1, .inl (cI, 2001, .inl (laid (fun _ => 0) (fun j => nI (plF (fun _ => 0) 0 ((tcA 203).2.2) j)) i2)))]) (w1 := [(mo, .inr (13, moF a (upd (upd (upd (upd (upd (upd (upd (upd (upd (upd (upd (upd (upd (upd (upd (upd (upd (fun _ => 0) 1 0) 110 0) 3 (nI 0)) 22 0) 69 0) 70 0) 73 0) 75 0) 59 (nI (0 + 1))) 18 (nI 0)) 21 0) 19 1) 20 ((upd (laid (fun _ => 0) (fun i => nI (mlF (fun _ => 0) 0 i)) 0) 0 (nI 0)) 0)) 34 (nI (0 + 1))) 72 0) 71 0) 82 1) (-9223372036854775808))), (a 2, .inl (cB, 2000, .inl (fun _ => 0))), (a 14, .inl (cI, 2001, .inl (upd (laid (fun _ => 0) (msF (fun _ => 0) 0) 0) 0 0))), (a 15, .inl (cI, 2001, .inl (upd (laid (fun _ => 0) (fun i => nI (mlF (fun _ => 0) 0 i)) 0) 0 (nI 0)))), (a 16, .inl (cI, 2001, .inl (upd (laid (fun _ => 0) (mwF (fun _ => 0) 0) 0) 0 0))), (a 17, .inl (cJ, 2001, .inr (.inl (laidL (fun _ => 0) (mnbF (fun _ => 0) 0) 0)))), (a 36, .inl (cI, 60, .inl (upd ((fun _ => 0)) 0 0))), (a 37, .inl (cI, 60, .inl (upd ((fun _ => 0)) 0 0))), (a 38, .inl (cI, 60, .inl (upd ((fun _ => 0)) 0 (-1)))), (a 39, .inl (cI, 60, .inl (upd ((fun _ => 0)) 0 0))), (a 40, .inl (cI, 60, .inl (upd ((fun _ => 0)) 0 (-1)))), (a 41, .inl (cI, 60, .inl (upd ((fun _ => 0)) 0 (-1)))), (a 42, .inl (cI, 60, .inl (upd ((fun _ => 0)) 0 0))), (a 43, .inl (cI, 60, .inl (upd ((fun _ => 0)) 0 (-1)))), (a 35, .inl (cI, 60, .inl (upd ((fun _ => 0)) 0 (-1)))), (a 60, .inl (cI, 60, .inl (upd ((fun _ => 0)) 0 0))), (a 64, .inl (cI, 60, .inl (upd ((fun _ => 0)) 0 0))), (a 68, .inl (cI, 60, .inl (upd ((fun _ => 0)) 0 (-1)))), (a 65, .inl (cI, 60, .inl (upd ((fun _ => 0)) 0 (-1))))]) hP hD [0, 1, 2, 3, 4, 5, 7, 8, 9, 10, 11, 12, 13, 14, 6, 15, 16, 18, 17] [19, 20, 21, 22, 23, 24, 25] rfl rfl (by decide) (by decide) hk1 hFc hP1 hD1
  have hK := (hK.sub (tys' := [(cS, .object "StreamQueries$Source"), (cO, .object "java/lang/Object")]) [4, 5] rfl).app hK1
  generalize H1 = H at hP hS ⊢
  have hP : va_P (dC, dI) vwCl [(x0, .inr (12, [.ref tp, .int 0, .ref sm, .ref tk, .int 1, .null, .null, .ref as, .ref bs, .ref cs, .ref ds, .int 0, .ref cr, .ref cy, .int 0, .ref tr])), (tk, .inr (11, [.ref tk0, .ref tk1, .ref tk2, .ref tp, .int (nI 0), .int (nI (psF (fun _ => 0) 0 ((tcA 203).2.2) i2)), .ref tk4])), (tp, .inl (cB, 2000, .inl (fun _ => 0))), (tk0, .inl (cI, 2001, .inl (laid (fun _ => 0) (kiF (fun _ => 0) 0 ((tcA 203).2.2)) i2))), (tk2, .inl (cJ, 2001, .inr (.inl (laidL (fun _ => 0) (nbF (fun _ => 0) 0 ((tcA 203).2.2)) i2)))), (tk4, .inl (cJ, 39, .inr (.inl ((tcA 203).2.2)))), (tk1, .inl (cI, 2001, .inl (laid (fun _ => 0) (fun j => nI (plF (fun _ => 0) 0 ((tcA 203).2.2) j)) i2))), (mo, .inr (13, moF a (upd (upd (upd (upd (upd (upd (upd (upd (upd (upd (upd (upd (upd (upd (upd (upd (upd (fun _ => 0) 1 0) 110 0) 3 (nI 0)) 22 0) 69 0) 70 0) 73 0) 75 0) 59 (nI (0 + 1))) 18 (nI 0)) 21 0) 19 1) 20 ((upd (laid (fun _ => 0) (fun i => nI (mlF (fun _ => 0) 0 i)) 0) 0 (nI 0)) 0)) 34 (nI (0 + 1))) 72 0) 71 0) 82 1) (-9223372036854775808))), (a 2, .inl (cB, 2000, .inl (fun _ => 0))), (a 14, .inl (cI, 2001, .inl (upd (laid (fun _ => 0) (msF (fun _ => 0) 0) 0) 0 0))), (a 15, .inl (cI, 2001, .inl (upd (laid (fun _ => 0) (fun i => nI (mlF (fun _ => 0) 0 i)) 0) 0 (nI 0)))), (a 16, .inl (cI, 2001, .inl (upd (laid (fun _ => 0) (mwF (fun _ => 0) 0) 0) 0 0))), (a 17, .inl (cJ, 2001, .inr (.inl (laidL (fun _ => 0) (mnbF (fun _ => 0) 0) 0)))), (a 36, .inl (cI, 60, .inl (upd ((fun _ => 0)) 0 0))), (a 37, .inl (cI, 60, .inl (upd ((fun _ => 0)) 0 0))), (a 38, .inl (cI, 60, .inl (upd ((fun _ => 0)) 0 (-1)))), (a 39, .inl (cI, 60, .inl (upd ((fun _ => 0)) 0 0))), (a 40, .inl (cI, 60, .inl (upd ((fun _ => 0)) 0 (-1)))), (a 41, .inl (cI, 60, .inl (upd ((fun _ => 0)) 0 (-1)))), (a 42, .inl (cI, 60, .inl (upd ((fun _ => 0)) 0 0))), (a 43, .inl (cI, 60, .inl (upd ((fun _ => 0)) 0 (-1)))), (a 35, .inl (cI, 60, .inl (upd ((fun _ => 0)) 0 (-1)))), (a 60, .inl (cI, 60, .inl (upd ((fun _ => 0)) 0 0))), (a 64, .inl (cI, 60, .inl (upd ((fun _ => 0)) 0 0))), (a 68, .inl (cI, 60, .inl (upd ((fun _ => 0)) 0 (-1)))), (a 65, .inl (cI, 60, .inl (upd ((fun _ => 0)) 0 (-1))))] H := hP
  have hD : va_D A [(x0, .inr (12, [.ref tp, .int 0, .ref sm, .ref tk, .int 1, .null, .null, .ref as, .ref bs, .ref cs, .ref ds, .int 0, .ref cr, .ref cy, .int 0, .ref tr])), (tk, .inr (11, [.ref tk0, .ref tk1, .ref tk2, .ref tp, .int (nI 0), .int (nI (psF (fun _ => 0) 0 ((tcA 203).2.2) i2)), .ref tk4])), (tp, .inl (cB, 2000, .inl (fun _ => 0))), (tk0, .inl (cI, 2001, .inl (laid (fun _ => 0) (kiF (fun _ => 0) 0 ((tcA 203).2.2)) i2))), (tk2, .inl (cJ, 2001, .inr (.inl (laidL (fun _ => 0) (nbF (fun _ => 0) 0 ((tcA 203).2.2)) i2)))), (tk4, .inl (cJ, 39, .inr (.inl ((tcA 203).2.2)))), (tk1, .inl (cI, 2001, .inl (laid (fun _ => 0) (fun j => nI (plF (fun _ => 0) 0 ((tcA 203).2.2) j)) i2))), (mo, .inr (13, moF a (upd (upd (upd (upd (upd (upd (upd (upd (upd (upd (upd (upd (upd (upd (upd (upd (upd (fun _ => 0) 1 0) 110 0) 3 (nI 0)) 22 0) 69 0) 70 0) 73 0) 75 0) 59 (nI (0 + 1))) 18 (nI 0)) 21 0) 19 1) 20 ((upd (laid (fun _ => 0) (fun i => nI (mlF (fun _ => 0) 0 i)) 0) 0 (nI 0)) 0)) 34 (nI (0 + 1))) 72 0) 71 0) 82 1) (-9223372036854775808))), (a 2, .inl (cB, 2000, .inl (fun _ => 0))), (a 14, .inl (cI, 2001, .inl (upd (laid (fun _ => 0) (msF (fun _ => 0) 0) 0) 0 0))), (a 15, .inl (cI, 2001, .inl (upd (laid (fun _ => 0) (fun i => nI (mlF (fun _ => 0) 0 i)) 0) 0 (nI 0)))), (a 16, .inl (cI, 2001, .inl (upd (laid (fun _ => 0) (mwF (fun _ => 0) 0) 0) 0 0))), (a 17, .inl (cJ, 2001, .inr (.inl (laidL (fun _ => 0) (mnbF (fun _ => 0) 0) 0)))), (a 36, .inl (cI, 60, .inl (upd ((fun _ => 0)) 0 0))), (a 37, .inl (cI, 60, .inl (upd ((fun _ => 0)) 0 0))), (a 38, .inl (cI, 60, .inl (upd ((fun _ => 0)) 0 (-1)))), (a 39, .inl (cI, 60, .inl (upd ((fun _ => 0)) 0 0))), (a 40, .inl (cI, 60, .inl (upd ((fun _ => 0)) 0 (-1)))), (a 41, .inl (cI, 60, .inl (upd ((fun _ => 0)) 0 (-1)))), (a 42, .inl (cI, 60, .inl (upd ((fun _ => 0)) 0 0))), (a 43, .inl (cI, 60, .inl (upd ((fun _ => 0)) 0 (-1)))), (a 35, .inl (cI, 60, .inl (upd ((fun _ => 0)) 0 (-1)))), (a 60, .inl (cI, 60, .inl (upd ((fun _ => 0)) 0 0))), (a 64, .inl (cI, 60, .inl (upd ((fun _ => 0)) 0 0))), (a 68, .inl (cI, 60, .inl (upd ((fun _ => 0)) 0 (-1)))), (a 65, .inl (cI, 60, .inl (upd ((fun _ => 0)) 0 (-1))))] := hD
  have hK : va_K (dC, dI) vwCl [(cS, .object "StreamQueries$Source"), (cO, .object "java/lang/Object"), (cB, .byte), (cI, .int), (cJ, .long), (cZ, .boolean)] s := hK
  have er_2 : r_2 = (-10) := hw
  rw [er_2]
  refine lv_icmp_eq (tgt := 750) hx hb dL_law_245 (by decide) (fun c_3 => ?_) (fun c_3 => ?_)
  · skip
    exact law_tail C0 hA hbA hAf (Nat.le_of_ble_eq_true rfl) (Nat.le_of_ble_eq_true rfl) hS (lv_sub hl [0, 1, 2, 3] rfl)
  · skip
    exact absurd rfl c_3
set_option maxHeartbeats 4000000 in
set_option maxRecDepth 100000 in
theorem lc_4 {p : Program} {l : Launch} {e : Env} {s : State} {m : MethodId} {below : List Frame} {meth : Method} {c : Code} {dC : Nat → ClassId} {dI : Nat → Nat → Nat} {cB cI cJ cZ cS cO : ClassId} {b : Nat} {xs : Nat → Int32} {K V : Nat → Nat} {fz : Value} {A : Nat → Prop} {as as0 as1 as2 as3 bs bs0 bs1 bs2 bs3 cr cs cs0 cs1 cs2 cs3 cy ds ds0 ds1 ds2 ds3 mo sm sm0 sm1 sm2 sm3 sm4 sm5 tk tk0 tk1 tk2 tk3 tk4 tp tr tr0 tr1 tr10 tr2 tr3 tr4 tr5 tr6 tr7 tr8 tr9 x0 : Nat} {a : Nat → Nat} (C0 : lw_At p s m meth c b 6 xs) (hZ : zE K V fz A s) (hA : ∀ q : Nat, s.heap.size ≤ q → A q) (hbA : ¬ A b) (hAf : ∀ q : Nat, A q → s.heap.size ≤ q)  (hK : va_K (dC, dI) vwCl [(cB, .byte), (cI, .int), (cJ, .long), (cZ, .boolean), (cS, .object "StreamQueries$Source"), (cO, .object "java/lang/Object")] s) {H : Heap} {locs : List Loc} {ls : Array Slot} (hP : va_P (dC, dI) vwCl [(x0, .inr (12, [.ref tp, .int 0, .ref sm, .ref tk, .int 0, .null, .null, .ref as, .ref bs, .ref cs, .ref ds, .int 0, .ref cr, .ref cy, .int 0, .ref tr])), (mo, .inr (13, moF a (fun _ => 0) (-9223372036854775808)))] H) (hD : va_D A [(x0, .inr (12, [.ref tp, .int 0, .ref sm, .ref tk, .int 0, .null, .null, .ref as, .ref bs, .ref cs, .ref ds, .int 0, .ref cr, .ref cy, .int 0, .ref tr])), (mo, .inr (13, moF a (fun _ => 0) (-9223372036854775808)))]) (hS : va_S A s.heap H locs) (hl : lv_has ls 4 [(0, .ref b), (1, .ref x0), (2, .ref mo), (3, .int 0)]) : W p l e room_1 s m #[Value.ref b] below meth c H locs 127 886803 (lw_Z below #[Value.ref b] s) (F0 m 250 ls []) := by
  obtain ⟨hx, hb, hr, hml, hown, hts, hX, hbl, hlocks, hgv⟩ := id C0
  refine lv_aload_n hx hb dL_law_250 rfl (lv_at hl 1 rfl) ?_
  have hPc := hP.sub (ws' := [(x0, .inr (12, [.ref tp, .int 0, .ref sm, .ref tk, .int 0, .null, .null, .ref as, .ref bs, .ref cs, .ref ds, .int 0, .ref cr, .ref cy, .int 0, .ref tr]))]) [0] rfl
  have hDc := hD.sub (ws' := [(x0, .inr (12, [.ref tp, .int 0, .ref sm, .ref tk, .int 0, .null, .null, .ref as, .ref bs, .ref cs, .ref ds, .int 0, .ref cr, .ref cy, .int 0, .ref tr]))]) [0] (by decide) rfl
  have hKc := hK.sub (tys' := []) [] rfl
  have hFc := va_free (wc := [(x0, .inr (12, [.ref tp, .int 0, .ref sm, .ref tk, .int 0, .null, .null, .ref as, .ref bs, .ref cs, .ref ds, .int 0, .ref cr, .ref cy, .int 0, .ref tr]))]) hD hS hA [0] rfl
  refine va_calli (va_runV (As := []) (rest := []) ⟨hx, hb, hml, hown, hts⟩ (t_X11_fault l dC dI H.size x0 (.ref tp) (.ref sm) (.ref tk) .null .null (.ref as) (.ref bs) (.ref cs) (.ref ds) (.ref cr) (.ref cy) (.ref tr) 0 0 0 0) (cwV 0 hts (gd_law (in_V kw_1562 kw_1563 kw_1564 kw_181 kc_X11_fault)) rfl rfl rfl (by decide +kernel) ⟨Nat.le_of_ble_eq_true rfl, Nat.le_of_ble_eq_true rfl⟩) ⟨fun a U g mk q => by obtain ⟨q0, q1, qP, qK, qD⟩ := q; exact ⟨q0, q1, qP, va_K.moved (u := U) (U := U.calling g mk a) (Vm.Alike.refl U.vm) qK, qD⟩, va_recv hKc hPc (ci := 12) (q0 := 0) rfl rfl, fun U hU hW => ⟨rfl, by rw [hU], by rw [hU]; exact hPc, va_K.moved hW.alike hKc, hDc.weaken (fun _ _ _ _ => trivial)⟩⟩ rfl rfl hl.1 rfl (lv_room (Nat.le_of_ble_eq_true rfl)) dL_law_251 ⟨Nat.le_of_ble_eq_true rfl, Nat.le_of_ble_eq_true rfl⟩) hS (fun q _ h => hFc q h) hFc (fun r_1 u t_ H1 locs ht hvm hw hB hz1 hk1 hS => ?_)
  obtain ⟨hP1, hK1, hD1⟩ := hB
  rw [ht] at hP1
  have hK1 := va_K.moved hvm.symm hK1
  obtain ⟨hP, hD⟩ := va_join (wr := [(mo, .inr (13, moF a (fun _ => 0) (-9223372036854775808)))]) (w1 := [(x0, .inr (12, [.ref tp, .int 0, .ref sm, .ref tk, .int 0, .null, .null, .ref as, .ref bs, .ref cs, .ref ds, .int 0, .ref cr, .ref cy, .int 0, .ref tr]))]) hP hD [0] [1] rfl rfl (by decide) (by decide) hk1 hFc hP1 hD1
  have hK := (hK.sub (tys' := [(cB, .byte), (cI, .int), (cJ, .long), (cZ, .boolean), (cS, .object "StreamQueries$Source"), (cO, .object "java/lang/Object")]) [0, 1, 2, 3, 4, 5] rfl).app hK1
  generalize H1 = H at hP hS ⊢
  have hP : va_P (dC, dI) vwCl [(mo, .inr (13, moF a (fun _ => 0) (-9223372036854775808))), (x0, .inr (12, [.ref tp, .int 0, .ref sm, .ref tk, .int 0, .null, .null, .ref as, .ref bs, .ref cs, .ref ds, .int 0, .ref cr, .ref cy, .int 0, .ref tr]))] H := hP
  have hD : va_D A [(mo, .inr (13, moF a (fun _ => 0) (-9223372036854775808))), (x0, .inr (12, [.ref tp, .int 0, .ref sm, .ref tk, .int 0, .null, .null, .ref as, .ref bs, .ref cs, .ref ds, .int 0, .ref cr, .ref cy, .int 0, .ref tr]))] := hD
  have hK : va_K (dC, dI) vwCl [(cB, .byte), (cI, .int), (cJ, .long), (cZ, .boolean), (cS, .object "StreamQueries$Source"), (cO, .object "java/lang/Object")] s := hK
  have er_1 : r_1 = 0 := hw
  rw [er_1]
  refine lv_aload_n hx hb dL_law_254 rfl (lv_at hl 2 rfl) ?_
  have hPc := hP.sub (ws' := [(mo, .inr (13, moF a (fun _ => 0) (-9223372036854775808)))]) [0] rfl
  have hDc := hD.sub (ws' := [(mo, .inr (13, moF a (fun _ => 0) (-9223372036854775808)))]) [0] (by decide) rfl
  have hKc := hK.sub (tys' := []) [] rfl
  have hFc := va_free (wc := [(mo, .inr (13, moF a (fun _ => 0) (-9223372036854775808)))]) hD hS hA [0] rfl
  refine va_calli (va_runV (As := []) (rest := [.int 0]) ⟨hx, hb, hml, hown, hts⟩ (t_X12_fault l dC dI H.size mo a (fun _ => 0) (-9223372036854775808)) (cwV 0 hts (gd_law (in_V kw_2456 kw_2457 kw_2458 kw_191 kc_X12_fault)) rfl rfl rfl (by decide +kernel) ⟨Nat.le_of_ble_eq_true rfl, Nat.le_of_ble_eq_true rfl⟩) ⟨fun a U g mk q => by obtain ⟨q0, q1, qP, qK, qD⟩ := q; exact ⟨q0, q1, qP, va_K.moved (u := U) (U := U.calling g mk a) (Vm.Alike.refl U.vm) qK, qD⟩, va_recv hKc hPc (ci := 13) (q0 := 0) rfl rfl, fun U hU hW => ⟨rfl, by rw [hU], by rw [hU]; exact hPc, va_K.moved hW.alike hKc, hDc.weaken (fun _ _ _ _ => trivial)⟩⟩ rfl rfl hl.1 rfl (lv_room (Nat.le_of_ble_eq_true rfl)) dL_law_255 ⟨Nat.le_of_ble_eq_true rfl, Nat.le_of_ble_eq_true rfl⟩) hS (fun q _ h => hFc q h) hFc (fun r_2 u t_ H1 locs ht hvm hw hB hz1 hk1 hS => ?_)
  obtain ⟨hP1, hK1, hD1⟩ := hB
  rw [ht] at hP1
  have hK1 := va_K.moved hvm.symm hK1
  obtain ⟨hP, hD⟩ := va_join (wr := [(x0, .inr (12, [.ref tp, .int 0, .ref sm, .ref tk, .int 0, .null, .null, .ref as, .ref bs, .ref cs, .ref ds, .int 0, .ref cr, .ref cy, .int 0, .ref tr]))]) (w1 := [(mo, .inr (13, moF a (fun _ => 0) (-9223372036854775808)))]) hP hD [0] [1] rfl rfl (by decide) (by decide) hk1 hFc hP1 hD1
  have hK := (hK.sub (tys' := [(cB, .byte), (cI, .int), (cJ, .long), (cZ, .boolean), (cS, .object "StreamQueries$Source"), (cO, .object "java/lang/Object")]) [0, 1, 2, 3, 4, 5] rfl).app hK1
  generalize H1 = H at hP hS ⊢
  have hP : va_P (dC, dI) vwCl [(x0, .inr (12, [.ref tp, .int 0, .ref sm, .ref tk, .int 0, .null, .null, .ref as, .ref bs, .ref cs, .ref ds, .int 0, .ref cr, .ref cy, .int 0, .ref tr])), (mo, .inr (13, moF a (fun _ => 0) (-9223372036854775808)))] H := hP
  have hD : va_D A [(x0, .inr (12, [.ref tp, .int 0, .ref sm, .ref tk, .int 0, .null, .null, .ref as, .ref bs, .ref cs, .ref ds, .int 0, .ref cr, .ref cy, .int 0, .ref tr])), (mo, .inr (13, moF a (fun _ => 0) (-9223372036854775808)))] := hD
  have hK : va_K (dC, dI) vwCl [(cB, .byte), (cI, .int), (cJ, .long), (cZ, .boolean), (cS, .object "StreamQueries$Source"), (cO, .object "java/lang/Object")] s := hK
  have er_2 : r_2 = 0 := hw
  rw [er_2]
  refine lv_icmp_eq (tgt := 750) hx hb dL_law_258 (by decide) (fun c_3 => ?_) (fun c_3 => ?_)
  · skip
    exact law_tail C0 hA hbA hAf (Nat.le_of_ble_eq_true rfl) (Nat.le_of_ble_eq_true rfl) hS (lv_sub hl [0, 1, 2, 3] rfl)
  · skip
    exact absurd c_3 (by decide)
set_option maxHeartbeats 4000000 in
set_option maxRecDepth 100000 in
theorem lc_5 {p : Program} {l : Launch} {e : Env} {s : State} {m : MethodId} {below : List Frame} {meth : Method} {c : Code} {dC : Nat → ClassId} {dI : Nat → Nat → Nat} {cB cI cJ cZ cS cO : ClassId} {b : Nat} {xs : Nat → Int32} {K V : Nat → Nat} {fz : Value} {A : Nat → Prop} {as as0 as1 as2 as3 bs bs0 bs1 bs2 bs3 cr cs cs0 cs1 cs2 cs3 cy ds ds0 ds1 ds2 ds3 mo sm sm0 sm1 sm2 sm3 sm4 sm5 tk tk0 tk1 tk2 tk3 tk4 tp tr tr0 tr1 tr10 tr2 tr3 tr4 tr5 tr6 tr7 tr8 tr9 x0 : Nat} {a : Nat → Nat} (C0 : lw_At p s m meth c b 6 xs) (hZ : zE K V fz A s) (hA : ∀ q : Nat, s.heap.size ≤ q → A q) (hbA : ¬ A b) (hAf : ∀ q : Nat, A q → s.heap.size ≤ q)  (hK : va_K (dC, dI) vwCl [(cB, .byte), (cI, .int), (cJ, .long), (cZ, .boolean), (cS, .object "StreamQueries$Source"), (cO, .object "java/lang/Object")] s) {H : Heap} {locs : List Loc} {ls : Array Slot} (hP : va_P (dC, dI) vwCl [(x0, .inr (12, [.ref tp, .int 0, .ref sm, .ref tk, .int 0, .null, .null, .ref as, .ref bs, .ref cs, .ref ds, .int 0, .ref cr, .ref cy, .int 0, .ref tr])), (sm, .inr (8, [.int 0, .long (-9223372036854775808), .ref sm0, .ref sm1, .ref sm2, .ref sm3, .ref sm4, .ref sm5, .int 0])), (sm4, .inl (cJ, 4, .inr (.inl (fun _ => 0)))), (sm5, .inl (cB, 4, .inl (fun _ => 0))), (mo, .inr (13, moF a (fun _ => 0) (-9223372036854775808))), (a 12, .inl (cJ, 4, .inr (.inl (fun _ => 0)))), (a 13, .inl (cZ, 4, .inl (fun _ => 0)))] H) (hD : va_D A [(x0, .inr (12, [.ref tp, .int 0, .ref sm, .ref tk, .int 0, .null, .null, .ref as, .ref bs, .ref cs, .ref ds, .int 0, .ref cr, .ref cy, .int 0, .ref tr])), (sm, .inr (8, [.int 0, .long (-9223372036854775808), .ref sm0, .ref sm1, .ref sm2, .ref sm3, .ref sm4, .ref sm5, .int 0])), (sm4, .inl (cJ, 4, .inr (.inl (fun _ => 0)))), (sm5, .inl (cB, 4, .inl (fun _ => 0))), (mo, .inr (13, moF a (fun _ => 0) (-9223372036854775808))), (a 12, .inl (cJ, 4, .inr (.inl (fun _ => 0)))), (a 13, .inl (cZ, 4, .inl (fun _ => 0)))]) (hS : va_S A s.heap H locs) (hl : lv_has ls 4 [(0, .ref b), (1, .ref x0), (2, .ref mo), (3, .int 0)]) : W p l e room_1 s m #[Value.ref b] below meth c H locs 127 886803 (lw_Z below #[Value.ref b] s) (F0 m 263 ls []) := by
  obtain ⟨hx, hb, hr, hml, hown, hts, hX, hbl, hlocks, hgv⟩ := id C0
  refine lv_aload_n hx hb dL_law_263 rfl (lv_at hl 1 rfl) ?_
  refine lv_aload_n hx hb dL_law_264 rfl (lv_at hl 0 rfl) ?_
  refine lv_iload_n hx hb dL_law_265 rfl (lv_at hl 3 rfl) ?_
  refine lv_iconst (v := 1) hx hb dL_law_266 (by decide) ?_
  refine lv_iadd hx hb dL_law_267 ?_
  refine lv_topi (fun x_1 ex_1 => ?_)
  have ex_1 : x_1 = 1 := ex_1.trans (by decide)
  subst ex_1
  refine va_sld hx hb hX hbl hbA hS (i := 1) (vp_in_nI (n := 1) (N := 6) (by omega) (by omega)) dL_law_268 ?_
  refine lv_topi (fun x_2 ex_2 => ?_)
  have ex_2 : x_2 = xs 1 := ex_2.trans (congrArg xs (nI_clamp (n := 1) (by omega)))
  rw [ex_2]
  refine lv_i2l hx hb dL_law_269 rfl ?_
  refine lv_bipush (v := 32) hx hb dL_law_270 (by decide) ?_
  refine lv_lshl (v := ((xs 1).toInt64) <<< ((32 : Int32).toInt64 &&& 63)) hx hb dL_law_272 rfl ?_
  refine lv_aload_n hx hb dL_law_273 rfl (lv_at hl 0 rfl) ?_
  refine lv_iload_n hx hb dL_law_274 rfl (lv_at hl 3 rfl) ?_
  refine lv_iconst (v := 2) hx hb dL_law_275 (by decide) ?_
  refine lv_iadd hx hb dL_law_276 ?_
  refine lv_topi (fun x_3 ex_3 => ?_)
  have ex_3 : x_3 = 2 := ex_3.trans (by decide)
  subst ex_3
  refine va_sld hx hb hX hbl hbA hS (i := 2) (vp_in_nI (n := 2) (N := 6) (by omega) (by omega)) dL_law_277 ?_
  refine lv_topi (fun x_4 ex_4 => ?_)
  have ex_4 : x_4 = xs 2 := ex_4.trans (congrArg xs (nI_clamp (n := 2) (by omega)))
  rw [ex_4]
  refine lv_i2l hx hb dL_law_278 rfl ?_
  refine lv_ldc2 hx hb hown (hts _ (kG_in kw_2508)) dL_law_279 ?_
  refine lv_land hx hb dL_law_282 ?_
  refine lv_lor hx hb dL_law_283 ?_
  have hPc := hP.sub (ws' := [(x0, .inr (12, [.ref tp, .int 0, .ref sm, .ref tk, .int 0, .null, .null, .ref as, .ref bs, .ref cs, .ref ds, .int 0, .ref cr, .ref cy, .int 0, .ref tr])), (sm, .inr (8, [.int 0, .long (-9223372036854775808), .ref sm0, .ref sm1, .ref sm2, .ref sm3, .ref sm4, .ref sm5, .int 0])), (sm4, .inl (cJ, 4, .inr (.inl (fun _ => 0)))), (sm5, .inl (cB, 4, .inl (fun _ => 0)))]) [0, 1, 2, 3] rfl
  have hDc := hD.sub (ws' := [(x0, .inr (12, [.ref tp, .int 0, .ref sm, .ref tk, .int 0, .null, .null, .ref as, .ref bs, .ref cs, .ref ds, .int 0, .ref cr, .ref cy, .int 0, .ref tr])), (sm, .inr (8, [.int 0, .long (-9223372036854775808), .ref sm0, .ref sm1, .ref sm2, .ref sm3, .ref sm4, .ref sm5, .int 0])), (sm4, .inl (cJ, 4, .inr (.inl (fun _ => 0)))), (sm5, .inl (cB, 4, .inl (fun _ => 0)))]) [0, 1, 2, 3] (by decide) rfl
  have hKc := hK.sub (tys' := [(cB, .byte), (cI, .int), (cJ, .long), (cZ, .boolean)]) [0, 1, 2, 3] rfl
  have hFc := va_free (wc := [(x0, .inr (12, [.ref tp, .int 0, .ref sm, .ref tk, .int 0, .null, .null, .ref as, .ref bs, .ref cs, .ref ds, .int 0, .ref cr, .ref cy, .int 0, .ref tr])), (sm, .inr (8, [.int 0, .long (-9223372036854775808), .ref sm0, .ref sm1, .ref sm2, .ref sm3, .ref sm4, .ref sm5, .int 0])), (sm4, .inl (cJ, 4, .inr (.inl (fun _ => 0)))), (sm5, .inl (cB, 4, .inl (fun _ => 0)))]) hD hS hA [0, 1, 2, 3] rfl
  refine va_calli (va_runV (As := [.long ((((xs 1).toInt64) <<< ((32 : Int32).toInt64 &&& 63)) ||| (((xs 2).toInt64) &&& (4294967295)))]) (rest := []) ⟨hx, hb, hml, hown, hts⟩ (t_X11_value l dC dI H.size cB cI cJ cZ x0 sm sm4 sm5 0 (fun _ => 0) (fun _ => 0) (-9223372036854775808) (.ref sm0) (.ref sm1) (.ref sm2) (.ref sm3) 0 (.ref tp) (.ref tk) .null .null (.ref as) (.ref bs) (.ref cs) (.ref ds) (.ref cr) (.ref cy) (.ref tr) 0 0 0 0 ((((xs 1).toInt64) <<< ((32 : Int32).toInt64 &&& 63)) ||| (((xs 2).toInt64) &&& (4294967295))) (by omega)) (cwV 1 hts (gd_law (in_V kw_1566 kw_1567 kw_1568 kw_181 kc_X11_value)) rfl rfl rfl (by decide +kernel) ⟨Nat.le_of_ble_eq_true rfl, Nat.le_of_ble_eq_true rfl⟩) ⟨fun a U g mk q => by obtain ⟨q0, q1, qP, qK, qD⟩ := q; exact ⟨q0, q1, qP, va_K.moved (u := U) (U := U.calling g mk a) (Vm.Alike.refl U.vm) qK, qD⟩, va_recv hKc hPc (ci := 12) (q0 := 0) rfl rfl, fun U hU hW => ⟨rfl, by rw [hU], by rw [hU]; exact hPc, va_K.moved hW.alike hKc, hDc.weaken (fun _ _ _ _ => trivial)⟩⟩ rfl rfl hl.1 rfl (lv_room (Nat.le_of_ble_eq_true rfl)) dL_law_284 ⟨Nat.le_of_ble_eq_true rfl, Nat.le_of_ble_eq_true rfl⟩) hS (fun q _ h => hFc q h) hFc (fun r_5 u t_ H1 locs ht hvm hw hB hz1 hk1 hS => ?_)
  obtain ⟨t2, x2, y2⟩ := u
  obtain ⟨hP1, hK1, hD1⟩ := hB
  obtain ⟨hw, -⟩ := hw
  rw [ht] at hP1
  have hK1 := va_K.moved hvm.symm hK1
  obtain ⟨hP, hD⟩ := va_join (wr := [(mo, .inr (13, moF a (fun _ => 0) (-9223372036854775808))), (a 12, .inl (cJ, 4, .inr (.inl (fun _ => 0)))), (a 13, .inl (cZ, 4, .inl (fun _ => 0)))]) (w1 := [(x0, .inr (12, [.ref tp, .int 0, .ref sm, .ref tk, .int 0, .null, .null, .ref as, .ref bs, .ref cs, .ref ds, .int 0, .ref cr, .ref cy, .int 0, .ref tr])), (sm, .inr (8, [.int 0, .long (-9223372036854775808), .ref sm0, .ref sm1, .ref sm2, .ref sm3, .ref sm4, .ref sm5, .int (nI t2)])), (sm4, .inl (cJ, 4, .inr (.inl x2))), (sm5, .inl (cB, 4, .inl y2))]) hP hD [0, 1, 2, 3] [4, 5, 6] rfl rfl (by decide) (by decide) hk1 hFc hP1 hD1
  have hK := (hK.sub (tys' := [(cS, .object "StreamQueries$Source"), (cO, .object "java/lang/Object")]) [4, 5] rfl).app hK1
  generalize H1 = H at hP hS ⊢
  have hP : va_P (dC, dI) vwCl [(mo, .inr (13, moF a (fun _ => 0) (-9223372036854775808))), (a 12, .inl (cJ, 4, .inr (.inl (fun _ => 0)))), (a 13, .inl (cZ, 4, .inl (fun _ => 0))), (x0, .inr (12, [.ref tp, .int 0, .ref sm, .ref tk, .int 0, .null, .null, .ref as, .ref bs, .ref cs, .ref ds, .int 0, .ref cr, .ref cy, .int 0, .ref tr])), (sm, .inr (8, [.int 0, .long (-9223372036854775808), .ref sm0, .ref sm1, .ref sm2, .ref sm3, .ref sm4, .ref sm5, .int (nI t2)])), (sm4, .inl (cJ, 4, .inr (.inl x2))), (sm5, .inl (cB, 4, .inl y2))] H := hP
  have hD : va_D A [(mo, .inr (13, moF a (fun _ => 0) (-9223372036854775808))), (a 12, .inl (cJ, 4, .inr (.inl (fun _ => 0)))), (a 13, .inl (cZ, 4, .inl (fun _ => 0))), (x0, .inr (12, [.ref tp, .int 0, .ref sm, .ref tk, .int 0, .null, .null, .ref as, .ref bs, .ref cs, .ref ds, .int 0, .ref cr, .ref cy, .int 0, .ref tr])), (sm, .inr (8, [.int 0, .long (-9223372036854775808), .ref sm0, .ref sm1, .ref sm2, .ref sm3, .ref sm4, .ref sm5, .int (nI t2)])), (sm4, .inl (cJ, 4, .inr (.inl x2))), (sm5, .inl (cB, 4, .inl y2))] := hD
  have hK : va_K (dC, dI) vwCl [(cS, .object "StreamQueries$Source"), (cO, .object "java/lang/Object"), (cB, .byte), (cI, .int), (cJ, .long), (cZ, .boolean)] s := hK
  have er_5 : r_5 = drR 0 := hw
  rw [er_5]
  refine lv_aload_n hx hb dL_law_287 rfl (lv_at hl 2 rfl) ?_
  refine lv_aload_n hx hb dL_law_288 rfl (lv_at hl 0 rfl) ?_
  refine lv_iload_n hx hb dL_law_289 rfl (lv_at hl 3 rfl) ?_
  refine lv_iconst (v := 1) hx hb dL_law_290 (by decide) ?_
  refine lv_iadd hx hb dL_law_291 ?_
  refine lv_topi (fun x_6 ex_6 => ?_)
  have ex_6 : x_6 = 1 := ex_6.trans (by decide)
  subst ex_6
  refine va_sld hx hb hX hbl hbA hS (i := 1) (vp_in_nI (n := 1) (N := 6) (by omega) (by omega)) dL_law_292 ?_
  refine lv_topi (fun x_7 ex_7 => ?_)
  have ex_7 : x_7 = xs 1 := ex_7.trans (congrArg xs (nI_clamp (n := 1) (by omega)))
  rw [ex_7]
  refine lv_i2l hx hb dL_law_293 rfl ?_
  refine lv_bipush (v := 32) hx hb dL_law_294 (by decide) ?_
  refine lv_lshl (v := ((xs 1).toInt64) <<< ((32 : Int32).toInt64 &&& 63)) hx hb dL_law_296 rfl ?_
  refine lv_aload_n hx hb dL_law_297 rfl (lv_at hl 0 rfl) ?_
  refine lv_iload_n hx hb dL_law_298 rfl (lv_at hl 3 rfl) ?_
  refine lv_iconst (v := 2) hx hb dL_law_299 (by decide) ?_
  refine lv_iadd hx hb dL_law_300 ?_
  refine lv_topi (fun x_8 ex_8 => ?_)
  have ex_8 : x_8 = 2 := ex_8.trans (by decide)
  subst ex_8
  refine va_sld hx hb hX hbl hbA hS (i := 2) (vp_in_nI (n := 2) (N := 6) (by omega) (by omega)) dL_law_301 ?_
  refine lv_topi (fun x_9 ex_9 => ?_)
  have ex_9 : x_9 = xs 2 := ex_9.trans (congrArg xs (nI_clamp (n := 2) (by omega)))
  rw [ex_9]
  refine lv_i2l hx hb dL_law_302 rfl ?_
  refine lv_ldc2 hx hb hown (hts _ (kG_in kw_2508)) dL_law_303 ?_
  refine lv_land hx hb dL_law_306 ?_
  refine lv_lor hx hb dL_law_307 ?_
  have hPc := hP.sub (ws' := [(mo, .inr (13, moF a (fun _ => 0) (-9223372036854775808))), (a 12, .inl (cJ, 4, .inr (.inl (fun _ => 0)))), (a 13, .inl (cZ, 4, .inl (fun _ => 0)))]) [0, 1, 2] rfl
  have hDc := hD.sub (ws' := [(mo, .inr (13, moF a (fun _ => 0) (-9223372036854775808))), (a 12, .inl (cJ, 4, .inr (.inl (fun _ => 0)))), (a 13, .inl (cZ, 4, .inl (fun _ => 0)))]) [0, 1, 2] (by decide) rfl
  have hKc := hK.sub (tys' := [(cB, .byte), (cI, .int), (cJ, .long), (cZ, .boolean)]) [2, 3, 4, 5] rfl
  have hFc := va_free (wc := [(mo, .inr (13, moF a (fun _ => 0) (-9223372036854775808))), (a 12, .inl (cJ, 4, .inr (.inl (fun _ => 0)))), (a 13, .inl (cZ, 4, .inl (fun _ => 0)))]) hD hS hA [0, 1, 2] rfl
  refine va_calli (va_runV (As := [.long ((((xs 1).toInt64) <<< ((32 : Int32).toInt64 &&& 63)) ||| (((xs 2).toInt64) &&& (4294967295)))]) (rest := [.int (drR 0)]) ⟨hx, hb, hml, hown, hts⟩ (t_X12_value l dC dI H.size cB cI cJ cZ mo a 0 (fun _ => 0) (fun _ => 0) (fun _ => 0) (-9223372036854775808) ((((xs 1).toInt64) <<< ((32 : Int32).toInt64 &&& 63)) ||| (((xs 2).toInt64) &&& (4294967295))) (by omega)) (cwV 1 hts (gd_law (in_V kw_2054 kw_2055 kw_2056 kw_191 kc_X12_value)) rfl rfl rfl (by decide +kernel) ⟨Nat.le_of_ble_eq_true rfl, Nat.le_of_ble_eq_true rfl⟩) ⟨fun a U g mk q => by obtain ⟨q0, q1, qP, qK, qD⟩ := q; exact ⟨q0, q1, qP, va_K.moved (u := U) (U := U.calling g mk a) (Vm.Alike.refl U.vm) qK, qD⟩, va_recv hKc hPc (ci := 13) (q0 := 0) rfl rfl, fun U hU hW => ⟨rfl, by rw [hU], by rw [hU]; exact hPc, va_K.moved hW.alike hKc, hDc.weaken (fun _ _ _ _ => trivial)⟩⟩ rfl rfl hl.1 rfl (lv_room (Nat.le_of_ble_eq_true rfl)) dL_law_308 ⟨Nat.le_of_ble_eq_true rfl, Nat.le_of_ble_eq_true rfl⟩) hS (fun q _ h => hFc q h) hFc (fun r_10 u t_ H1 locs ht hvm hw hB hz1 hk1 hS => ?_)
  obtain ⟨t3, x3, y3⟩ := u
  obtain ⟨hP1, hK1, hD1⟩ := hB
  obtain ⟨hw, -⟩ := hw
  rw [ht] at hP1
  have hK1 := va_K.moved hvm.symm hK1
  obtain ⟨hP, hD⟩ := va_join (wr := [(x0, .inr (12, [.ref tp, .int 0, .ref sm, .ref tk, .int 0, .null, .null, .ref as, .ref bs, .ref cs, .ref ds, .int 0, .ref cr, .ref cy, .int 0, .ref tr])), (sm, .inr (8, [.int 0, .long (-9223372036854775808), .ref sm0, .ref sm1, .ref sm2, .ref sm3, .ref sm4, .ref sm5, .int (nI t2)])), (sm4, .inl (cJ, 4, .inr (.inl x2))), (sm5, .inl (cB, 4, .inl y2))]) (w1 := [(mo, .inr (13, moF a (upd (fun _ => 0) 11 (nI t3)) (-9223372036854775808))), (a 12, .inl (cJ, 4, .inr (.inl x3))), (a 13, .inl (cZ, 4, .inl y3))]) hP hD [0, 1, 2] [3, 4, 5, 6] rfl rfl (by decide) (by decide) hk1 hFc hP1 hD1
  have hK := (hK.sub (tys' := [(cS, .object "StreamQueries$Source"), (cO, .object "java/lang/Object")]) [0, 1] rfl).app hK1
  generalize H1 = H at hP hS ⊢
  have hP : va_P (dC, dI) vwCl [(x0, .inr (12, [.ref tp, .int 0, .ref sm, .ref tk, .int 0, .null, .null, .ref as, .ref bs, .ref cs, .ref ds, .int 0, .ref cr, .ref cy, .int 0, .ref tr])), (sm, .inr (8, [.int 0, .long (-9223372036854775808), .ref sm0, .ref sm1, .ref sm2, .ref sm3, .ref sm4, .ref sm5, .int (nI t2)])), (sm4, .inl (cJ, 4, .inr (.inl x2))), (sm5, .inl (cB, 4, .inl y2)), (mo, .inr (13, moF a (upd (fun _ => 0) 11 (nI t3)) (-9223372036854775808))), (a 12, .inl (cJ, 4, .inr (.inl x3))), (a 13, .inl (cZ, 4, .inl y3))] H := hP
  have hD : va_D A [(x0, .inr (12, [.ref tp, .int 0, .ref sm, .ref tk, .int 0, .null, .null, .ref as, .ref bs, .ref cs, .ref ds, .int 0, .ref cr, .ref cy, .int 0, .ref tr])), (sm, .inr (8, [.int 0, .long (-9223372036854775808), .ref sm0, .ref sm1, .ref sm2, .ref sm3, .ref sm4, .ref sm5, .int (nI t2)])), (sm4, .inl (cJ, 4, .inr (.inl x2))), (sm5, .inl (cB, 4, .inl y2)), (mo, .inr (13, moF a (upd (fun _ => 0) 11 (nI t3)) (-9223372036854775808))), (a 12, .inl (cJ, 4, .inr (.inl x3))), (a 13, .inl (cZ, 4, .inl y3))] := hD
  have hK : va_K (dC, dI) vwCl [(cS, .object "StreamQueries$Source"), (cO, .object "java/lang/Object"), (cB, .byte), (cI, .int), (cJ, .long), (cZ, .boolean)] s := hK
  have er_10 : r_10 = drR 0 := hw
  rw [er_10]
  refine lv_icmp_eq (tgt := 750) hx hb dL_law_311 (by decide) (fun c_11 => ?_) (fun c_11 => ?_)
  · skip
    exact law_tail C0 hA hbA hAf (Nat.le_of_ble_eq_true rfl) (Nat.le_of_ble_eq_true rfl) hS (lv_sub hl [0, 1, 2, 3] rfl)
  · skip
    exact absurd rfl c_11
set_option maxHeartbeats 4000000 in
set_option maxRecDepth 100000 in
theorem lc_6 {p : Program} {l : Launch} {e : Env} {s : State} {m : MethodId} {below : List Frame} {meth : Method} {c : Code} {dC : Nat → ClassId} {dI : Nat → Nat → Nat} {cB cI cJ cZ cS cO : ClassId} {b : Nat} {xs : Nat → Int32} {K V : Nat → Nat} {fz : Value} {A : Nat → Prop} {as as0 as1 as2 as3 bs bs0 bs1 bs2 bs3 cr cs cs0 cs1 cs2 cs3 cy ds ds0 ds1 ds2 ds3 mo sm sm0 sm1 sm2 sm3 sm4 sm5 tk tk0 tk1 tk2 tk3 tk4 tp tr tr0 tr1 tr10 tr2 tr3 tr4 tr5 tr6 tr7 tr8 tr9 x0 : Nat} {a : Nat → Nat} (C0 : lw_At p s m meth c b 6 xs) (hZ : zE K V fz A s) (hA : ∀ q : Nat, s.heap.size ≤ q → A q) (hbA : ¬ A b) (hAf : ∀ q : Nat, A q → s.heap.size ≤ q)  (hK : va_K (dC, dI) vwCl [(cB, .byte), (cI, .int), (cJ, .long), (cZ, .boolean), (cS, .object "StreamQueries$Source"), (cO, .object "java/lang/Object")] s) {H : Heap} {locs : List Loc} {ls : Array Slot} (hP : va_P (dC, dI) vwCl [(x0, .inr (12, [.ref tp, .int 0, .ref sm, .ref tk, .int 0, .null, .null, .ref as, .ref bs, .ref cs, .ref ds, .int 0, .ref cr, .ref cy, .int 0, .ref tr])), (sm, .inr (8, [.int 0, .long (-9223372036854775808), .ref sm0, .ref sm1, .ref sm2, .ref sm3, .ref sm4, .ref sm5, .int 0])), (sm4, .inl (cJ, 4, .inr (.inl (fun _ => 0)))), (sm5, .inl (cB, 4, .inl (fun _ => 0))), (mo, .inr (13, moF a (fun _ => 0) (-9223372036854775808))), (a 12, .inl (cJ, 4, .inr (.inl (fun _ => 0)))), (a 13, .inl (cZ, 4, .inl (fun _ => 0)))] H) (hD : va_D A [(x0, .inr (12, [.ref tp, .int 0, .ref sm, .ref tk, .int 0, .null, .null, .ref as, .ref bs, .ref cs, .ref ds, .int 0, .ref cr, .ref cy, .int 0, .ref tr])), (sm, .inr (8, [.int 0, .long (-9223372036854775808), .ref sm0, .ref sm1, .ref sm2, .ref sm3, .ref sm4, .ref sm5, .int 0])), (sm4, .inl (cJ, 4, .inr (.inl (fun _ => 0)))), (sm5, .inl (cB, 4, .inl (fun _ => 0))), (mo, .inr (13, moF a (fun _ => 0) (-9223372036854775808))), (a 12, .inl (cJ, 4, .inr (.inl (fun _ => 0)))), (a 13, .inl (cZ, 4, .inl (fun _ => 0)))]) (hS : va_S A s.heap H locs) (hl : lv_has ls 4 [(0, .ref b), (1, .ref x0), (2, .ref mo), (3, .int 0)]) : W p l e room_1 s m #[Value.ref b] below meth c H locs 127 886803 (lw_Z below #[Value.ref b] s) (F0 m 316 ls []) := by
  obtain ⟨hx, hb, hr, hml, hown, hts, hX, hbl, hlocks, hgv⟩ := id C0
  refine lv_aload_n hx hb dL_law_316 rfl (lv_at hl 1 rfl) ?_
  have hPc := hP.sub (ws' := [(x0, .inr (12, [.ref tp, .int 0, .ref sm, .ref tk, .int 0, .null, .null, .ref as, .ref bs, .ref cs, .ref ds, .int 0, .ref cr, .ref cy, .int 0, .ref tr])), (sm, .inr (8, [.int 0, .long (-9223372036854775808), .ref sm0, .ref sm1, .ref sm2, .ref sm3, .ref sm4, .ref sm5, .int 0])), (sm4, .inl (cJ, 4, .inr (.inl (fun _ => 0)))), (sm5, .inl (cB, 4, .inl (fun _ => 0)))]) [0, 1, 2, 3] rfl
  have hDc := hD.sub (ws' := [(x0, .inr (12, [.ref tp, .int 0, .ref sm, .ref tk, .int 0, .null, .null, .ref as, .ref bs, .ref cs, .ref ds, .int 0, .ref cr, .ref cy, .int 0, .ref tr])), (sm, .inr (8, [.int 0, .long (-9223372036854775808), .ref sm0, .ref sm1, .ref sm2, .ref sm3, .ref sm4, .ref sm5, .int 0])), (sm4, .inl (cJ, 4, .inr (.inl (fun _ => 0)))), (sm5, .inl (cB, 4, .inl (fun _ => 0)))]) [0, 1, 2, 3] (by decide) rfl
  have hKc := hK.sub (tys' := [(cB, .byte), (cI, .int), (cJ, .long), (cZ, .boolean)]) [0, 1, 2, 3] rfl
  have hFc := va_free (wc := [(x0, .inr (12, [.ref tp, .int 0, .ref sm, .ref tk, .int 0, .null, .null, .ref as, .ref bs, .ref cs, .ref ds, .int 0, .ref cr, .ref cy, .int 0, .ref tr])), (sm, .inr (8, [.int 0, .long (-9223372036854775808), .ref sm0, .ref sm1, .ref sm2, .ref sm3, .ref sm4, .ref sm5, .int 0])), (sm4, .inl (cJ, 4, .inr (.inl (fun _ => 0)))), (sm5, .inl (cB, 4, .inl (fun _ => 0)))]) hD hS hA [0, 1, 2, 3] rfl
  refine va_calli (va_runV (As := []) (rest := []) ⟨hx, hb, hml, hown, hts⟩ (t_X11_nothing l dC dI H.size cB cI cJ cZ x0 sm sm4 sm5 0 (fun _ => 0) (fun _ => 0) (-9223372036854775808) (.ref sm0) (.ref sm1) (.ref sm2) (.ref sm3) 0 (.ref tp) (.ref tk) .null .null (.ref as) (.ref bs) (.ref cs) (.ref ds) (.ref cr) (.ref cy) (.ref tr) 0 0 0 0  (by omega)) (cwV 0 hts (gd_law (in_V kw_1574 kw_1575 kw_1576 kw_181 kc_X11_nothing)) rfl rfl rfl (by decide +kernel) ⟨Nat.le_of_ble_eq_true rfl, Nat.le_of_ble_eq_true rfl⟩) ⟨fun a U g mk q => by obtain ⟨q0, q1, qP, qK, qD⟩ := q; exact ⟨q0, q1, qP, va_K.moved (u := U) (U := U.calling g mk a) (Vm.Alike.refl U.vm) qK, qD⟩, va_recv hKc hPc (ci := 12) (q0 := 0) rfl rfl, fun U hU hW => ⟨rfl, by rw [hU], by rw [hU]; exact hPc, va_K.moved hW.alike hKc, hDc.weaken (fun _ _ _ _ => trivial)⟩⟩ rfl rfl hl.1 rfl (lv_room (Nat.le_of_ble_eq_true rfl)) dL_law_317 ⟨Nat.le_of_ble_eq_true rfl, Nat.le_of_ble_eq_true rfl⟩) hS (fun q _ h => hFc q h) hFc (fun r_1 u t_ H1 locs ht hvm hw hB hz1 hk1 hS => ?_)
  obtain ⟨t2, x2, y2⟩ := u
  obtain ⟨hP1, hK1, hD1⟩ := hB
  obtain ⟨hw, -⟩ := hw
  rw [ht] at hP1
  have hK1 := va_K.moved hvm.symm hK1
  obtain ⟨hP, hD⟩ := va_join (wr := [(mo, .inr (13, moF a (fun _ => 0) (-9223372036854775808))), (a 12, .inl (cJ, 4, .inr (.inl (fun _ => 0)))), (a 13, .inl (cZ, 4, .inl (fun _ => 0)))]) (w1 := [(x0, .inr (12, [.ref tp, .int 0, .ref sm, .ref tk, .int 0, .null, .null, .ref as, .ref bs, .ref cs, .ref ds, .int 0, .ref cr, .ref cy, .int 0, .ref tr])), (sm, .inr (8, [.int 0, .long (-9223372036854775808), .ref sm0, .ref sm1, .ref sm2, .ref sm3, .ref sm4, .ref sm5, .int (nI t2)])), (sm4, .inl (cJ, 4, .inr (.inl x2))), (sm5, .inl (cB, 4, .inl y2))]) hP hD [0, 1, 2, 3] [4, 5, 6] rfl rfl (by decide) (by decide) hk1 hFc hP1 hD1
  have hK := (hK.sub (tys' := [(cS, .object "StreamQueries$Source"), (cO, .object "java/lang/Object")]) [4, 5] rfl).app hK1
  generalize H1 = H at hP hS ⊢
  have hP : va_P (dC, dI) vwCl [(mo, .inr (13, moF a (fun _ => 0) (-9223372036854775808))), (a 12, .inl (cJ, 4, .inr (.inl (fun _ => 0)))), (a 13, .inl (cZ, 4, .inl (fun _ => 0))), (x0, .inr (12, [.ref tp, .int 0, .ref sm, .ref tk, .int 0, .null, .null, .ref as, .ref bs, .ref cs, .ref ds, .int 0, .ref cr, .ref cy, .int 0, .ref tr])), (sm, .inr (8, [.int 0, .long (-9223372036854775808), .ref sm0, .ref sm1, .ref sm2, .ref sm3, .ref sm4, .ref sm5, .int (nI t2)])), (sm4, .inl (cJ, 4, .inr (.inl x2))), (sm5, .inl (cB, 4, .inl y2))] H := hP
  have hD : va_D A [(mo, .inr (13, moF a (fun _ => 0) (-9223372036854775808))), (a 12, .inl (cJ, 4, .inr (.inl (fun _ => 0)))), (a 13, .inl (cZ, 4, .inl (fun _ => 0))), (x0, .inr (12, [.ref tp, .int 0, .ref sm, .ref tk, .int 0, .null, .null, .ref as, .ref bs, .ref cs, .ref ds, .int 0, .ref cr, .ref cy, .int 0, .ref tr])), (sm, .inr (8, [.int 0, .long (-9223372036854775808), .ref sm0, .ref sm1, .ref sm2, .ref sm3, .ref sm4, .ref sm5, .int (nI t2)])), (sm4, .inl (cJ, 4, .inr (.inl x2))), (sm5, .inl (cB, 4, .inl y2))] := hD
  have hK : va_K (dC, dI) vwCl [(cS, .object "StreamQueries$Source"), (cO, .object "java/lang/Object"), (cB, .byte), (cI, .int), (cJ, .long), (cZ, .boolean)] s := hK
  have er_1 : r_1 = drR 0 := hw
  rw [er_1]
  refine lv_aload_n hx hb dL_law_320 rfl (lv_at hl 2 rfl) ?_
  have hPc := hP.sub (ws' := [(mo, .inr (13, moF a (fun _ => 0) (-9223372036854775808))), (a 12, .inl (cJ, 4, .inr (.inl (fun _ => 0)))), (a 13, .inl (cZ, 4, .inl (fun _ => 0)))]) [0, 1, 2] rfl
  have hDc := hD.sub (ws' := [(mo, .inr (13, moF a (fun _ => 0) (-9223372036854775808))), (a 12, .inl (cJ, 4, .inr (.inl (fun _ => 0)))), (a 13, .inl (cZ, 4, .inl (fun _ => 0)))]) [0, 1, 2] (by decide) rfl
  have hKc := hK.sub (tys' := [(cB, .byte), (cI, .int), (cJ, .long), (cZ, .boolean)]) [2, 3, 4, 5] rfl
  have hFc := va_free (wc := [(mo, .inr (13, moF a (fun _ => 0) (-9223372036854775808))), (a 12, .inl (cJ, 4, .inr (.inl (fun _ => 0)))), (a 13, .inl (cZ, 4, .inl (fun _ => 0)))]) hD hS hA [0, 1, 2] rfl
  refine va_calli (va_runV (As := []) (rest := [.int (drR 0)]) ⟨hx, hb, hml, hown, hts⟩ (t_X12_nothing l dC dI H.size cB cI cJ cZ mo a 0 (fun _ => 0) (fun _ => 0) (fun _ => 0) (-9223372036854775808)  (by omega)) (cwV 0 hts (gd_law (in_V kw_2062 kw_2063 kw_2064 kw_191 kc_X12_nothing)) rfl rfl rfl (by decide +kernel) ⟨Nat.le_of_ble_eq_true rfl, Nat.le_of_ble_eq_true rfl⟩) ⟨fun a U g mk q => by obtain ⟨q0, q1, qP, qK, qD⟩ := q; exact ⟨q0, q1, qP, va_K.moved (u := U) (U := U.calling g mk a) (Vm.Alike.refl U.vm) qK, qD⟩, va_recv hKc hPc (ci := 13) (q0 := 0) rfl rfl, fun U hU hW => ⟨rfl, by rw [hU], by rw [hU]; exact hPc, va_K.moved hW.alike hKc, hDc.weaken (fun _ _ _ _ => trivial)⟩⟩ rfl rfl hl.1 rfl (lv_room (Nat.le_of_ble_eq_true rfl)) dL_law_321 ⟨Nat.le_of_ble_eq_true rfl, Nat.le_of_ble_eq_true rfl⟩) hS (fun q _ h => hFc q h) hFc (fun r_2 u t_ H1 locs ht hvm hw hB hz1 hk1 hS => ?_)
  obtain ⟨t3, x3, y3⟩ := u
  obtain ⟨hP1, hK1, hD1⟩ := hB
  obtain ⟨hw, -⟩ := hw
  rw [ht] at hP1
  have hK1 := va_K.moved hvm.symm hK1
  obtain ⟨hP, hD⟩ := va_join (wr := [(x0, .inr (12, [.ref tp, .int 0, .ref sm, .ref tk, .int 0, .null, .null, .ref as, .ref bs, .ref cs, .ref ds, .int 0, .ref cr, .ref cy, .int 0, .ref tr])), (sm, .inr (8, [.int 0, .long (-9223372036854775808), .ref sm0, .ref sm1, .ref sm2, .ref sm3, .ref sm4, .ref sm5, .int (nI t2)])), (sm4, .inl (cJ, 4, .inr (.inl x2))), (sm5, .inl (cB, 4, .inl y2))]) (w1 := [(mo, .inr (13, moF a (upd (fun _ => 0) 11 (nI t3)) (-9223372036854775808))), (a 12, .inl (cJ, 4, .inr (.inl x3))), (a 13, .inl (cZ, 4, .inl y3))]) hP hD [0, 1, 2] [3, 4, 5, 6] rfl rfl (by decide) (by decide) hk1 hFc hP1 hD1
  have hK := (hK.sub (tys' := [(cS, .object "StreamQueries$Source"), (cO, .object "java/lang/Object")]) [0, 1] rfl).app hK1
  generalize H1 = H at hP hS ⊢
  have hP : va_P (dC, dI) vwCl [(x0, .inr (12, [.ref tp, .int 0, .ref sm, .ref tk, .int 0, .null, .null, .ref as, .ref bs, .ref cs, .ref ds, .int 0, .ref cr, .ref cy, .int 0, .ref tr])), (sm, .inr (8, [.int 0, .long (-9223372036854775808), .ref sm0, .ref sm1, .ref sm2, .ref sm3, .ref sm4, .ref sm5, .int (nI t2)])), (sm4, .inl (cJ, 4, .inr (.inl x2))), (sm5, .inl (cB, 4, .inl y2)), (mo, .inr (13, moF a (upd (fun _ => 0) 11 (nI t3)) (-9223372036854775808))), (a 12, .inl (cJ, 4, .inr (.inl x3))), (a 13, .inl (cZ, 4, .inl y3))] H := hP
  have hD : va_D A [(x0, .inr (12, [.ref tp, .int 0, .ref sm, .ref tk, .int 0, .null, .null, .ref as, .ref bs, .ref cs, .ref ds, .int 0, .ref cr, .ref cy, .int 0, .ref tr])), (sm, .inr (8, [.int 0, .long (-9223372036854775808), .ref sm0, .ref sm1, .ref sm2, .ref sm3, .ref sm4, .ref sm5, .int (nI t2)])), (sm4, .inl (cJ, 4, .inr (.inl x2))), (sm5, .inl (cB, 4, .inl y2)), (mo, .inr (13, moF a (upd (fun _ => 0) 11 (nI t3)) (-9223372036854775808))), (a 12, .inl (cJ, 4, .inr (.inl x3))), (a 13, .inl (cZ, 4, .inl y3))] := hD
  have hK : va_K (dC, dI) vwCl [(cS, .object "StreamQueries$Source"), (cO, .object "java/lang/Object"), (cB, .byte), (cI, .int), (cJ, .long), (cZ, .boolean)] s := hK
  have er_2 : r_2 = drR 0 := hw
  rw [er_2]
  refine lv_icmp_eq (tgt := 750) hx hb dL_law_324 (by decide) (fun c_3 => ?_) (fun c_3 => ?_)
  · skip
    exact law_tail C0 hA hbA hAf (Nat.le_of_ble_eq_true rfl) (Nat.le_of_ble_eq_true rfl) hS (lv_sub hl [0, 1, 2, 3] rfl)
  · skip
    exact absurd rfl c_3
set_option maxHeartbeats 4000000 in
set_option maxRecDepth 100000 in
theorem lc_7 {p : Program} {l : Launch} {e : Env} {s : State} {m : MethodId} {below : List Frame} {meth : Method} {c : Code} {dC : Nat → ClassId} {dI : Nat → Nat → Nat} {cB cI cJ cZ cS cO : ClassId} {b : Nat} {xs : Nat → Int32} {K V : Nat → Nat} {fz : Value} {A : Nat → Prop} {as as0 as1 as2 as3 bs bs0 bs1 bs2 bs3 cr cs cs0 cs1 cs2 cs3 cy ds ds0 ds1 ds2 ds3 mo sm sm0 sm1 sm2 sm3 sm4 sm5 tk tk0 tk1 tk2 tk3 tk4 tp tr tr0 tr1 tr10 tr2 tr3 tr4 tr5 tr6 tr7 tr8 tr9 x0 : Nat} {a : Nat → Nat} (C0 : lw_At p s m meth c b 6 xs) (hZ : zE K V fz A s) (hA : ∀ q : Nat, s.heap.size ≤ q → A q) (hbA : ¬ A b) (hAf : ∀ q : Nat, A q → s.heap.size ≤ q)  (hK : va_K (dC, dI) vwCl [(cB, .byte), (cI, .int), (cJ, .long), (cZ, .boolean), (cS, .object "StreamQueries$Source"), (cO, .object "java/lang/Object")] s) {H : Heap} {locs : List Loc} {ls : Array Slot} (hP : va_P (dC, dI) vwCl [(x0, .inr (12, [.ref tp, .int 0, .ref sm, .ref tk, .int 0, .null, .null, .ref as, .ref bs, .ref cs, .ref ds, .int 0, .ref cr, .ref cy, .int 0, .ref tr])), (sm, .inr (8, [.int 0, .long (-9223372036854775808), .ref sm0, .ref sm1, .ref sm2, .ref sm3, .ref sm4, .ref sm5, .int 0])), (sm0, .inl (cI, 6, .inl (fun _ => 0))), (sm1, .inl (cJ, 240, .inr (.inl (fun _ => 0)))), (sm2, .inl (cB, 240, .inl (fun _ => 0))), (sm3, .inl (cB, 48, .inl (fun _ => 0))), (sm4, .inl (cJ, 4, .inr (.inl (fun _ => 0)))), (sm5, .inl (cB, 4, .inl (fun _ => 0))), (mo, .inr (13, moF a (fun _ => 0) (-9223372036854775808))), (a 5, .inl (cI, 6, .inl (fun _ => 0))), (a 6, .inl (cZ, 48, .inl (fun _ => 0))), (a 7, .inl (cJ, 48, .inr (.inl (fun _ => 0)))), (a 8, .inl (cJ, 192, .inr (.inl (fun _ => 0)))), (a 9, .inl (cZ, 192, .inl (fun _ => 0))), (a 12, .inl (cJ, 4, .inr (.inl (fun _ => 0)))), (a 13, .inl (cZ, 4, .inl (fun _ => 0)))] H) (hD : va_D A [(x0, .inr (12, [.ref tp, .int 0, .ref sm, .ref tk, .int 0, .null, .null, .ref as, .ref bs, .ref cs, .ref ds, .int 0, .ref cr, .ref cy, .int 0, .ref tr])), (sm, .inr (8, [.int 0, .long (-9223372036854775808), .ref sm0, .ref sm1, .ref sm2, .ref sm3, .ref sm4, .ref sm5, .int 0])), (sm0, .inl (cI, 6, .inl (fun _ => 0))), (sm1, .inl (cJ, 240, .inr (.inl (fun _ => 0)))), (sm2, .inl (cB, 240, .inl (fun _ => 0))), (sm3, .inl (cB, 48, .inl (fun _ => 0))), (sm4, .inl (cJ, 4, .inr (.inl (fun _ => 0)))), (sm5, .inl (cB, 4, .inl (fun _ => 0))), (mo, .inr (13, moF a (fun _ => 0) (-9223372036854775808))), (a 5, .inl (cI, 6, .inl (fun _ => 0))), (a 6, .inl (cZ, 48, .inl (fun _ => 0))), (a 7, .inl (cJ, 48, .inr (.inl (fun _ => 0)))), (a 8, .inl (cJ, 192, .inr (.inl (fun _ => 0)))), (a 9, .inl (cZ, 192, .inl (fun _ => 0))), (a 12, .inl (cJ, 4, .inr (.inl (fun _ => 0)))), (a 13, .inl (cZ, 4, .inl (fun _ => 0)))]) (hS : va_S A s.heap H locs) (hl : lv_has ls 4 [(0, .ref b), (1, .ref x0), (2, .ref mo), (3, .int 0)]) : W p l e room_1 s m #[Value.ref b] below meth c H locs 127 886803 (lw_Z below #[Value.ref b] s) (F0 m 329 ls []) := by
  obtain ⟨hx, hb, hr, hml, hown, hts, hX, hbl, hlocks, hgv⟩ := id C0
  refine lv_aload_n hx hb dL_law_329 rfl (lv_at hl 1 rfl) ?_
  refine lv_aload_n hx hb dL_law_330 rfl (lv_at hl 0 rfl) ?_
  refine lv_iload_n hx hb dL_law_331 rfl (lv_at hl 3 rfl) ?_
  refine lv_iconst (v := 1) hx hb dL_law_332 (by decide) ?_
  refine lv_iadd hx hb dL_law_333 ?_
  refine lv_topi (fun x_1 ex_1 => ?_)
  have ex_1 : x_1 = 1 := ex_1.trans (by decide)
  subst ex_1
  refine va_sld hx hb hX hbl hbA hS (i := 1) (vp_in_nI (n := 1) (N := 6) (by omega) (by omega)) dL_law_334 ?_
  refine lv_topi (fun x_2 ex_2 => ?_)
  have ex_2 : x_2 = xs 1 := ex_2.trans (congrArg xs (nI_clamp (n := 1) (by omega)))
  rw [ex_2]
  refine lv_aload_n hx hb dL_law_335 rfl (lv_at hl 0 rfl) ?_
  refine lv_iload_n hx hb dL_law_336 rfl (lv_at hl 3 rfl) ?_
  refine lv_iconst (v := 2) hx hb dL_law_337 (by decide) ?_
  refine lv_iadd hx hb dL_law_338 ?_
  refine lv_topi (fun x_3 ex_3 => ?_)
  have ex_3 : x_3 = 2 := ex_3.trans (by decide)
  subst ex_3
  refine va_sld hx hb hX hbl hbA hS (i := 2) (vp_in_nI (n := 2) (N := 6) (by omega) (by omega)) dL_law_339 ?_
  refine lv_topi (fun x_4 ex_4 => ?_)
  have ex_4 : x_4 = xs 2 := ex_4.trans (congrArg xs (nI_clamp (n := 2) (by omega)))
  rw [ex_4]
  refine lv_i2l hx hb dL_law_340 rfl ?_
  refine lv_bipush (v := 32) hx hb dL_law_341 (by decide) ?_
  refine lv_lshl (v := ((xs 2).toInt64) <<< ((32 : Int32).toInt64 &&& 63)) hx hb dL_law_343 rfl ?_
  refine lv_aload_n hx hb dL_law_344 rfl (lv_at hl 0 rfl) ?_
  refine lv_iload_n hx hb dL_law_345 rfl (lv_at hl 3 rfl) ?_
  refine lv_iconst (v := 3) hx hb dL_law_346 (by decide) ?_
  refine lv_iadd hx hb dL_law_347 ?_
  refine lv_topi (fun x_5 ex_5 => ?_)
  have ex_5 : x_5 = 3 := ex_5.trans (by decide)
  subst ex_5
  refine va_sld hx hb hX hbl hbA hS (i := 3) (vp_in_nI (n := 3) (N := 6) (by omega) (by omega)) dL_law_348 ?_
  refine lv_topi (fun x_6 ex_6 => ?_)
  have ex_6 : x_6 = xs 3 := ex_6.trans (congrArg xs (nI_clamp (n := 3) (by omega)))
  rw [ex_6]
  refine lv_i2l hx hb dL_law_349 rfl ?_
  refine lv_ldc2 hx hb hown (hts _ (kG_in kw_2508)) dL_law_350 ?_
  refine lv_land hx hb dL_law_353 ?_
  refine lv_lor hx hb dL_law_354 ?_
  have hPc := hP.sub (ws' := [(x0, .inr (12, [.ref tp, .int 0, .ref sm, .ref tk, .int 0, .null, .null, .ref as, .ref bs, .ref cs, .ref ds, .int 0, .ref cr, .ref cy, .int 0, .ref tr])), (sm, .inr (8, [.int 0, .long (-9223372036854775808), .ref sm0, .ref sm1, .ref sm2, .ref sm3, .ref sm4, .ref sm5, .int 0])), (sm0, .inl (cI, 6, .inl (fun _ => 0))), (sm1, .inl (cJ, 240, .inr (.inl (fun _ => 0)))), (sm2, .inl (cB, 240, .inl (fun _ => 0))), (sm3, .inl (cB, 48, .inl (fun _ => 0))), (sm4, .inl (cJ, 4, .inr (.inl (fun _ => 0)))), (sm5, .inl (cB, 4, .inl (fun _ => 0)))]) [0, 1, 2, 3, 4, 5, 6, 7] rfl
  have hDc := hD.sub (ws' := [(x0, .inr (12, [.ref tp, .int 0, .ref sm, .ref tk, .int 0, .null, .null, .ref as, .ref bs, .ref cs, .ref ds, .int 0, .ref cr, .ref cy, .int 0, .ref tr])), (sm, .inr (8, [.int 0, .long (-9223372036854775808), .ref sm0, .ref sm1, .ref sm2, .ref sm3, .ref sm4, .ref sm5, .int 0])), (sm0, .inl (cI, 6, .inl (fun _ => 0))), (sm1, .inl (cJ, 240, .inr (.inl (fun _ => 0)))), (sm2, .inl (cB, 240, .inl (fun _ => 0))), (sm3, .inl (cB, 48, .inl (fun _ => 0))), (sm4, .inl (cJ, 4, .inr (.inl (fun _ => 0)))), (sm5, .inl (cB, 4, .inl (fun _ => 0)))]) [0, 1, 2, 3, 4, 5, 6, 7] (by decide) rfl
  have hKc := hK.sub (tys' := [(cB, .byte), (cI, .int), (cJ, .long), (cZ, .boolean)]) [0, 1, 2, 3] rfl
  have hFc := va_free (wc := [(x0, .inr (12, [.ref tp, .int 0, .ref sm, .ref tk, .int 0, .null, .null, .ref as, .ref bs, .ref cs, .ref ds, .int 0, .ref cr, .ref cy, .int 0, .ref tr])), (sm, .inr (8, [.int 0, .long (-9223372036854775808), .ref sm0, .ref sm1, .ref sm2, .ref sm3, .ref sm4, .ref sm5, .int 0])), (sm0, .inl (cI, 6, .inl (fun _ => 0))), (sm1, .inl (cJ, 240, .inr (.inl (fun _ => 0)))), (sm2, .inl (cB, 240, .inl (fun _ => 0))), (sm3, .inl (cB, 48, .inl (fun _ => 0))), (sm4, .inl (cJ, 4, .inr (.inl (fun _ => 0)))), (sm5, .inl (cB, 4, .inl (fun _ => 0)))]) hD hS hA [0, 1, 2, 3, 4, 5, 6, 7] rfl
  refine va_calli (va_runV (As := [.int (xs 1), .long ((((xs 2).toInt64) <<< ((32 : Int32).toInt64 &&& 63)) ||| (((xs 3).toInt64) &&& (4294967295)))]) (rest := []) ⟨hx, hb, hml, hown, hts⟩ (t_X11_row_o l dC dI H.size cB cI cJ cZ x0 sm (.ref tp) (.ref tk) .null (.ref as) (.ref bs) (.ref cs) (.ref ds) (.ref cr) (.ref cy) (.ref tr) 0 0 0 0 sm0 sm1 sm2 sm3 sm4 sm5 0 0 (fun _ => 0) (fun _ => 0) (fun _ => 0) (fun _ => 0) (fun _ => 0) (fun _ => 0) (-9223372036854775808) (xs 1) ((((xs 2).toInt64) <<< ((32 : Int32).toInt64 &&& 63)) ||| (((xs 3).toInt64) &&& (4294967295))) (by omega) (lt_or_0 _)) (cwV 2 hts (gd_law (in_V kw_1578 kw_1579 kw_1580 kw_181 kc_X11_row)) rfl rfl rfl (by decide +kernel) ⟨Nat.le_of_ble_eq_true rfl, Nat.le_of_ble_eq_true rfl⟩) ⟨fun a U g mk q => by obtain ⟨q0, q1, qP, qK, qD⟩ := q; exact ⟨q0, q1, qP, va_K.moved (u := U) (U := U.calling g mk a) (Vm.Alike.refl U.vm) qK, qD⟩, va_recv hKc hPc (ci := 12) (q0 := 0) rfl rfl, fun U hU hW => ⟨rfl, by rw [hU], by rw [hU]; exact hPc, va_K.moved hW.alike hKc, hDc.weaken (fun _ _ _ _ => trivial)⟩⟩ rfl rfl hl.1 rfl (lv_room (Nat.le_of_ble_eq_true rfl)) dL_law_355 ⟨Nat.le_of_ble_eq_true rfl, Nat.le_of_ble_eq_true rfl⟩) hS (fun q _ h => hFc q h) hFc (fun r_7 u t_ H1 locs ht hvm hw hB hz1 hk1 hS => ?_)
  obtain ⟨hP1, hK1, hD1⟩ := hB
  rw [ht] at hP1
  have hK1 := va_K.moved hvm.symm hK1
  obtain ⟨hP, hD⟩ := va_join (wr := [(mo, .inr (13, moF a (fun _ => 0) (-9223372036854775808))), (a 5, .inl (cI, 6, .inl (fun _ => 0))), (a 6, .inl (cZ, 48, .inl (fun _ => 0))), (a 7, .inl (cJ, 48, .inr (.inl (fun _ => 0)))), (a 8, .inl (cJ, 192, .inr (.inl (fun _ => 0)))), (a 9, .inl (cZ, 192, .inl (fun _ => 0))), (a 12, .inl (cJ, 4, .inr (.inl (fun _ => 0)))), (a 13, .inl (cZ, 4, .inl (fun _ => 0)))]) (w1 := [(x0, .inr (12, [.ref tp, .int 0, .ref sm, .ref tk, .int 0, .null, .null, .ref as, .ref bs, .ref cs, .ref ds, .int 0, .ref cr, .ref cy, .int 0, .ref tr])), (sm, .inr (8, [.int 0, .long (-9223372036854775808), .ref sm0, .ref sm1, .ref sm2, .ref sm3, .ref sm4, .ref sm5, .int 0])), (sm0, .inl (cI, 6, .inl (fun _ => 0))), (sm1, .inl (cJ, 240, .inr (.inl (fun _ => 0)))), (sm2, .inl (cB, 240, .inl (fun _ => 0))), (sm3, .inl (cB, 48, .inl (fun _ => 0))), (sm4, .inl (cJ, 4, .inr (.inl (fun _ => 0)))), (sm5, .inl (cB, 4, .inl (fun _ => 0)))]) hP hD [0, 1, 2, 3, 4, 5, 6, 7] [8, 9, 10, 11, 12, 13, 14, 15] rfl rfl (by decide) (by decide) hk1 hFc hP1 hD1
  have hK := (hK.sub (tys' := [(cS, .object "StreamQueries$Source"), (cO, .object "java/lang/Object")]) [4, 5] rfl).app hK1
  generalize H1 = H at hP hS ⊢
  have hP : va_P (dC, dI) vwCl [(mo, .inr (13, moF a (fun _ => 0) (-9223372036854775808))), (a 5, .inl (cI, 6, .inl (fun _ => 0))), (a 6, .inl (cZ, 48, .inl (fun _ => 0))), (a 7, .inl (cJ, 48, .inr (.inl (fun _ => 0)))), (a 8, .inl (cJ, 192, .inr (.inl (fun _ => 0)))), (a 9, .inl (cZ, 192, .inl (fun _ => 0))), (a 12, .inl (cJ, 4, .inr (.inl (fun _ => 0)))), (a 13, .inl (cZ, 4, .inl (fun _ => 0))), (x0, .inr (12, [.ref tp, .int 0, .ref sm, .ref tk, .int 0, .null, .null, .ref as, .ref bs, .ref cs, .ref ds, .int 0, .ref cr, .ref cy, .int 0, .ref tr])), (sm, .inr (8, [.int 0, .long (-9223372036854775808), .ref sm0, .ref sm1, .ref sm2, .ref sm3, .ref sm4, .ref sm5, .int 0])), (sm0, .inl (cI, 6, .inl (fun _ => 0))), (sm1, .inl (cJ, 240, .inr (.inl (fun _ => 0)))), (sm2, .inl (cB, 240, .inl (fun _ => 0))), (sm3, .inl (cB, 48, .inl (fun _ => 0))), (sm4, .inl (cJ, 4, .inr (.inl (fun _ => 0)))), (sm5, .inl (cB, 4, .inl (fun _ => 0)))] H := hP
  have hD : va_D A [(mo, .inr (13, moF a (fun _ => 0) (-9223372036854775808))), (a 5, .inl (cI, 6, .inl (fun _ => 0))), (a 6, .inl (cZ, 48, .inl (fun _ => 0))), (a 7, .inl (cJ, 48, .inr (.inl (fun _ => 0)))), (a 8, .inl (cJ, 192, .inr (.inl (fun _ => 0)))), (a 9, .inl (cZ, 192, .inl (fun _ => 0))), (a 12, .inl (cJ, 4, .inr (.inl (fun _ => 0)))), (a 13, .inl (cZ, 4, .inl (fun _ => 0))), (x0, .inr (12, [.ref tp, .int 0, .ref sm, .ref tk, .int 0, .null, .null, .ref as, .ref bs, .ref cs, .ref ds, .int 0, .ref cr, .ref cy, .int 0, .ref tr])), (sm, .inr (8, [.int 0, .long (-9223372036854775808), .ref sm0, .ref sm1, .ref sm2, .ref sm3, .ref sm4, .ref sm5, .int 0])), (sm0, .inl (cI, 6, .inl (fun _ => 0))), (sm1, .inl (cJ, 240, .inr (.inl (fun _ => 0)))), (sm2, .inl (cB, 240, .inl (fun _ => 0))), (sm3, .inl (cB, 48, .inl (fun _ => 0))), (sm4, .inl (cJ, 4, .inr (.inl (fun _ => 0)))), (sm5, .inl (cB, 4, .inl (fun _ => 0)))] := hD
  have hK : va_K (dC, dI) vwCl [(cS, .object "StreamQueries$Source"), (cO, .object "java/lang/Object"), (cB, .byte), (cI, .int), (cJ, .long), (cZ, .boolean)] s := hK
  have er_7 : r_7 = (-1) := hw
  rw [er_7]
  refine lv_aload_n hx hb dL_law_358 rfl (lv_at hl 2 rfl) ?_
  refine lv_aload_n hx hb dL_law_359 rfl (lv_at hl 0 rfl) ?_
  refine lv_iload_n hx hb dL_law_360 rfl (lv_at hl 3 rfl) ?_
  refine lv_iconst (v := 1) hx hb dL_law_361 (by decide) ?_
  refine lv_iadd hx hb dL_law_362 ?_
  refine lv_topi (fun x_8 ex_8 => ?_)
  have ex_8 : x_8 = 1 := ex_8.trans (by decide)
  subst ex_8
  refine va_sld hx hb hX hbl hbA hS (i := 1) (vp_in_nI (n := 1) (N := 6) (by omega) (by omega)) dL_law_363 ?_
  refine lv_topi (fun x_9 ex_9 => ?_)
  have ex_9 : x_9 = xs 1 := ex_9.trans (congrArg xs (nI_clamp (n := 1) (by omega)))
  rw [ex_9]
  refine lv_aload_n hx hb dL_law_364 rfl (lv_at hl 0 rfl) ?_
  refine lv_iload_n hx hb dL_law_365 rfl (lv_at hl 3 rfl) ?_
  refine lv_iconst (v := 2) hx hb dL_law_366 (by decide) ?_
  refine lv_iadd hx hb dL_law_367 ?_
  refine lv_topi (fun x_10 ex_10 => ?_)
  have ex_10 : x_10 = 2 := ex_10.trans (by decide)
  subst ex_10
  refine va_sld hx hb hX hbl hbA hS (i := 2) (vp_in_nI (n := 2) (N := 6) (by omega) (by omega)) dL_law_368 ?_
  refine lv_topi (fun x_11 ex_11 => ?_)
  have ex_11 : x_11 = xs 2 := ex_11.trans (congrArg xs (nI_clamp (n := 2) (by omega)))
  rw [ex_11]
  refine lv_i2l hx hb dL_law_369 rfl ?_
  refine lv_bipush (v := 32) hx hb dL_law_370 (by decide) ?_
  refine lv_lshl (v := ((xs 2).toInt64) <<< ((32 : Int32).toInt64 &&& 63)) hx hb dL_law_372 rfl ?_
  refine lv_aload_n hx hb dL_law_373 rfl (lv_at hl 0 rfl) ?_
  refine lv_iload_n hx hb dL_law_374 rfl (lv_at hl 3 rfl) ?_
  refine lv_iconst (v := 3) hx hb dL_law_375 (by decide) ?_
  refine lv_iadd hx hb dL_law_376 ?_
  refine lv_topi (fun x_12 ex_12 => ?_)
  have ex_12 : x_12 = 3 := ex_12.trans (by decide)
  subst ex_12
  refine va_sld hx hb hX hbl hbA hS (i := 3) (vp_in_nI (n := 3) (N := 6) (by omega) (by omega)) dL_law_377 ?_
  refine lv_topi (fun x_13 ex_13 => ?_)
  have ex_13 : x_13 = xs 3 := ex_13.trans (congrArg xs (nI_clamp (n := 3) (by omega)))
  rw [ex_13]
  refine lv_i2l hx hb dL_law_378 rfl ?_
  refine lv_ldc2 hx hb hown (hts _ (kG_in kw_2508)) dL_law_379 ?_
  refine lv_land hx hb dL_law_382 ?_
  refine lv_lor hx hb dL_law_383 ?_
  have hPc := hP.sub (ws' := [(mo, .inr (13, moF a (fun _ => 0) (-9223372036854775808))), (a 5, .inl (cI, 6, .inl (fun _ => 0))), (a 6, .inl (cZ, 48, .inl (fun _ => 0))), (a 7, .inl (cJ, 48, .inr (.inl (fun _ => 0)))), (a 8, .inl (cJ, 192, .inr (.inl (fun _ => 0)))), (a 9, .inl (cZ, 192, .inl (fun _ => 0))), (a 12, .inl (cJ, 4, .inr (.inl (fun _ => 0)))), (a 13, .inl (cZ, 4, .inl (fun _ => 0)))]) [0, 1, 2, 3, 4, 5, 6, 7] rfl
  have hDc := hD.sub (ws' := [(mo, .inr (13, moF a (fun _ => 0) (-9223372036854775808))), (a 5, .inl (cI, 6, .inl (fun _ => 0))), (a 6, .inl (cZ, 48, .inl (fun _ => 0))), (a 7, .inl (cJ, 48, .inr (.inl (fun _ => 0)))), (a 8, .inl (cJ, 192, .inr (.inl (fun _ => 0)))), (a 9, .inl (cZ, 192, .inl (fun _ => 0))), (a 12, .inl (cJ, 4, .inr (.inl (fun _ => 0)))), (a 13, .inl (cZ, 4, .inl (fun _ => 0)))]) [0, 1, 2, 3, 4, 5, 6, 7] (by decide) rfl
  have hKc := hK.sub (tys' := [(cB, .byte), (cI, .int), (cJ, .long), (cZ, .boolean)]) [2, 3, 4, 5] rfl
  have hFc := va_free (wc := [(mo, .inr (13, moF a (fun _ => 0) (-9223372036854775808))), (a 5, .inl (cI, 6, .inl (fun _ => 0))), (a 6, .inl (cZ, 48, .inl (fun _ => 0))), (a 7, .inl (cJ, 48, .inr (.inl (fun _ => 0)))), (a 8, .inl (cJ, 192, .inr (.inl (fun _ => 0)))), (a 9, .inl (cZ, 192, .inl (fun _ => 0))), (a 12, .inl (cJ, 4, .inr (.inl (fun _ => 0)))), (a 13, .inl (cZ, 4, .inl (fun _ => 0)))]) hD hS hA [0, 1, 2, 3, 4, 5, 6, 7] rfl
  refine va_calli (va_runV (As := [.int (xs 1), .long ((((xs 2).toInt64) <<< ((32 : Int32).toInt64 &&& 63)) ||| (((xs 3).toInt64) &&& (4294967295)))]) (rest := [.int (-1)]) ⟨hx, hb, hml, hown, hts⟩ (t_X12_row_o l dC dI H.size cB cI cJ cZ mo a (fun _ => 0) (-9223372036854775808) 0 0 (fun _ => 0) (fun _ => 0) (fun _ => 0) (fun _ => 0) (fun _ => 0) (fun _ => 0) (fun _ => 0) (xs 1) ((((xs 2).toInt64) <<< ((32 : Int32).toInt64 &&& 63)) ||| (((xs 3).toInt64) &&& (4294967295))) (by omega) (lt_or_0 _)) (cwV 2 hts (gd_law (in_V kw_2066 kw_2067 kw_2068 kw_191 kc_X12_row)) rfl rfl rfl (by decide +kernel) ⟨Nat.le_of_ble_eq_true rfl, Nat.le_of_ble_eq_true rfl⟩) ⟨fun a U g mk q => by obtain ⟨q0, q1, qP, qK, qD⟩ := q; exact ⟨q0, q1, qP, va_K.moved (u := U) (U := U.calling g mk a) (Vm.Alike.refl U.vm) qK, qD⟩, va_recv hKc hPc (ci := 13) (q0 := 0) rfl rfl, fun U hU hW => ⟨rfl, by rw [hU], by rw [hU]; exact hPc, va_K.moved hW.alike hKc, hDc.weaken (fun _ _ _ _ => trivial)⟩⟩ rfl rfl hl.1 rfl (lv_room (Nat.le_of_ble_eq_true rfl)) dL_law_384 ⟨Nat.le_of_ble_eq_true rfl, Nat.le_of_ble_eq_true rfl⟩) hS (fun q _ h => hFc q h) hFc (fun r_14 u t_ H1 locs ht hvm hw hB hz1 hk1 hS => ?_)
  obtain ⟨hP1, hK1, hD1⟩ := hB
  rw [ht] at hP1
  have hK1 := va_K.moved hvm.symm hK1
  obtain ⟨hP, hD⟩ := va_join (wr := [(x0, .inr (12, [.ref tp, .int 0, .ref sm, .ref tk, .int 0, .null, .null, .ref as, .ref bs, .ref cs, .ref ds, .int 0, .ref cr, .ref cy, .int 0, .ref tr])), (sm, .inr (8, [.int 0, .long (-9223372036854775808), .ref sm0, .ref sm1, .ref sm2, .ref sm3, .ref sm4, .ref sm5, .int 0])), (sm0, .inl (cI, 6, .inl (fun _ => 0))), (sm1, .inl (cJ, 240, .inr (.inl (fun _ => 0)))), (sm2, .inl (cB, 240, .inl (fun _ => 0))), (sm3, .inl (cB, 48, .inl (fun _ => 0))), (sm4, .inl (cJ, 4, .inr (.inl (fun _ => 0)))), (sm5, .inl (cB, 4, .inl (fun _ => 0)))]) (w1 := [(mo, .inr (13, moF a (upd (upd (fun _ => 0) 11 0) 110 0) (-9223372036854775808))), (a 5, .inl (cI, 6, .inl (fun _ => 0))), (a 6, .inl (cZ, 48, .inl (fun _ => 0))), (a 7, .inl (cJ, 48, .inr (.inl (fun _ => 0)))), (a 8, .inl (cJ, 192, .inr (.inl (fun _ => 0)))), (a 9, .inl (cZ, 192, .inl (fun _ => 0))), (a 12, .inl (cJ, 4, .inr (.inl (fun _ => 0)))), (a 13, .inl (cZ, 4, .inl (fun _ => 0)))]) hP hD [0, 1, 2, 3, 4, 5, 6, 7] [8, 9, 10, 11, 12, 13, 14, 15] rfl rfl (by decide) (by decide) hk1 hFc hP1 hD1
  have hK := (hK.sub (tys' := [(cS, .object "StreamQueries$Source"), (cO, .object "java/lang/Object")]) [0, 1] rfl).app hK1
  generalize H1 = H at hP hS ⊢
  have hP : va_P (dC, dI) vwCl [(x0, .inr (12, [.ref tp, .int 0, .ref sm, .ref tk, .int 0, .null, .null, .ref as, .ref bs, .ref cs, .ref ds, .int 0, .ref cr, .ref cy, .int 0, .ref tr])), (sm, .inr (8, [.int 0, .long (-9223372036854775808), .ref sm0, .ref sm1, .ref sm2, .ref sm3, .ref sm4, .ref sm5, .int 0])), (sm0, .inl (cI, 6, .inl (fun _ => 0))), (sm1, .inl (cJ, 240, .inr (.inl (fun _ => 0)))), (sm2, .inl (cB, 240, .inl (fun _ => 0))), (sm3, .inl (cB, 48, .inl (fun _ => 0))), (sm4, .inl (cJ, 4, .inr (.inl (fun _ => 0)))), (sm5, .inl (cB, 4, .inl (fun _ => 0))), (mo, .inr (13, moF a (upd (upd (fun _ => 0) 11 0) 110 0) (-9223372036854775808))), (a 5, .inl (cI, 6, .inl (fun _ => 0))), (a 6, .inl (cZ, 48, .inl (fun _ => 0))), (a 7, .inl (cJ, 48, .inr (.inl (fun _ => 0)))), (a 8, .inl (cJ, 192, .inr (.inl (fun _ => 0)))), (a 9, .inl (cZ, 192, .inl (fun _ => 0))), (a 12, .inl (cJ, 4, .inr (.inl (fun _ => 0)))), (a 13, .inl (cZ, 4, .inl (fun _ => 0)))] H := hP
  have hD : va_D A [(x0, .inr (12, [.ref tp, .int 0, .ref sm, .ref tk, .int 0, .null, .null, .ref as, .ref bs, .ref cs, .ref ds, .int 0, .ref cr, .ref cy, .int 0, .ref tr])), (sm, .inr (8, [.int 0, .long (-9223372036854775808), .ref sm0, .ref sm1, .ref sm2, .ref sm3, .ref sm4, .ref sm5, .int 0])), (sm0, .inl (cI, 6, .inl (fun _ => 0))), (sm1, .inl (cJ, 240, .inr (.inl (fun _ => 0)))), (sm2, .inl (cB, 240, .inl (fun _ => 0))), (sm3, .inl (cB, 48, .inl (fun _ => 0))), (sm4, .inl (cJ, 4, .inr (.inl (fun _ => 0)))), (sm5, .inl (cB, 4, .inl (fun _ => 0))), (mo, .inr (13, moF a (upd (upd (fun _ => 0) 11 0) 110 0) (-9223372036854775808))), (a 5, .inl (cI, 6, .inl (fun _ => 0))), (a 6, .inl (cZ, 48, .inl (fun _ => 0))), (a 7, .inl (cJ, 48, .inr (.inl (fun _ => 0)))), (a 8, .inl (cJ, 192, .inr (.inl (fun _ => 0)))), (a 9, .inl (cZ, 192, .inl (fun _ => 0))), (a 12, .inl (cJ, 4, .inr (.inl (fun _ => 0)))), (a 13, .inl (cZ, 4, .inl (fun _ => 0)))] := hD
  have hK : va_K (dC, dI) vwCl [(cS, .object "StreamQueries$Source"), (cO, .object "java/lang/Object"), (cB, .byte), (cI, .int), (cJ, .long), (cZ, .boolean)] s := hK
  have er_14 : r_14 = (-1) := hw
  rw [er_14]
  refine lv_icmp_eq (tgt := 750) hx hb dL_law_387 (by decide) (fun c_15 => ?_) (fun c_15 => ?_)
  · skip
    exact law_tail C0 hA hbA hAf (Nat.le_of_ble_eq_true rfl) (Nat.le_of_ble_eq_true rfl) hS (lv_sub hl [0, 1, 2, 3] rfl)
  · skip
    exact absurd rfl c_15
set_option maxHeartbeats 4000000 in
set_option maxRecDepth 100000 in
theorem lc_8 {p : Program} {l : Launch} {e : Env} {s : State} {m : MethodId} {below : List Frame} {meth : Method} {c : Code} {dC : Nat → ClassId} {dI : Nat → Nat → Nat} {cB cI cJ cZ cS cO : ClassId} {b : Nat} {xs : Nat → Int32} {K V : Nat → Nat} {fz : Value} {A : Nat → Prop} {as as0 as1 as2 as3 bs bs0 bs1 bs2 bs3 cr cs cs0 cs1 cs2 cs3 cy ds ds0 ds1 ds2 ds3 mo sm sm0 sm1 sm2 sm3 sm4 sm5 tk tk0 tk1 tk2 tk3 tk4 tp tr tr0 tr1 tr10 tr2 tr3 tr4 tr5 tr6 tr7 tr8 tr9 x0 : Nat} {a : Nat → Nat} (C0 : lw_At p s m meth c b 6 xs) (hZ : zE K V fz A s) (hA : ∀ q : Nat, s.heap.size ≤ q → A q) (hbA : ¬ A b) (hAf : ∀ q : Nat, A q → s.heap.size ≤ q)  (hK : va_K (dC, dI) vwCl [(cB, .byte), (cI, .int), (cJ, .long), (cZ, .boolean), (cS, .object "StreamQueries$Source"), (cO, .object "java/lang/Object")] s) {H : Heap} {locs : List Loc} {ls : Array Slot} (hP : va_P (dC, dI) vwCl [(x0, .inr (12, [.ref tp, .int 0, .ref sm, .ref tk, .int 0, .null, .null, .ref as, .ref bs, .ref cs, .ref ds, .int 0, .ref cr, .ref cy, .int 0, .ref tr])), (sm, .inr (8, [.int 0, .long (-9223372036854775808), .ref sm0, .ref sm1, .ref sm2, .ref sm3, .ref sm4, .ref sm5, .int 0])), (sm0, .inl (cI, 6, .inl (fun _ => 0))), (sm3, .inl (cB, 48, .inl (fun _ => 0))), (mo, .inr (13, moF a (fun _ => 0) (-9223372036854775808))), (a 6, .inl (cZ, 48, .inl (fun _ => 0)))] H) (hD : va_D A [(x0, .inr (12, [.ref tp, .int 0, .ref sm, .ref tk, .int 0, .null, .null, .ref as, .ref bs, .ref cs, .ref ds, .int 0, .ref cr, .ref cy, .int 0, .ref tr])), (sm, .inr (8, [.int 0, .long (-9223372036854775808), .ref sm0, .ref sm1, .ref sm2, .ref sm3, .ref sm4, .ref sm5, .int 0])), (sm0, .inl (cI, 6, .inl (fun _ => 0))), (sm3, .inl (cB, 48, .inl (fun _ => 0))), (mo, .inr (13, moF a (fun _ => 0) (-9223372036854775808))), (a 6, .inl (cZ, 48, .inl (fun _ => 0)))]) (hS : va_S A s.heap H locs) (hl : lv_has ls 4 [(0, .ref b), (1, .ref x0), (2, .ref mo), (3, .int 0)]) : W p l e room_1 s m #[Value.ref b] below meth c H locs 127 886803 (lw_Z below #[Value.ref b] s) (F0 m 392 ls []) := by
  obtain ⟨hx, hb, hr, hml, hown, hts, hX, hbl, hlocks, hgv⟩ := id C0
  refine lv_aload_n hx hb dL_law_392 rfl (lv_at hl 1 rfl) ?_
  refine lv_aload_n hx hb dL_law_393 rfl (lv_at hl 0 rfl) ?_
  refine lv_iload_n hx hb dL_law_394 rfl (lv_at hl 3 rfl) ?_
  refine lv_iconst (v := 1) hx hb dL_law_395 (by decide) ?_
  refine lv_iadd hx hb dL_law_396 ?_
  refine lv_topi (fun x_1 ex_1 => ?_)
  have ex_1 : x_1 = 1 := ex_1.trans (by decide)
  subst ex_1
  refine va_sld hx hb hX hbl hbA hS (i := 1) (vp_in_nI (n := 1) (N := 6) (by omega) (by omega)) dL_law_397 ?_
  refine lv_topi (fun x_2 ex_2 => ?_)
  have ex_2 : x_2 = xs 1 := ex_2.trans (congrArg xs (nI_clamp (n := 1) (by omega)))
  rw [ex_2]
  refine lv_aload_n hx hb dL_law_398 rfl (lv_at hl 0 rfl) ?_
  refine lv_iload_n hx hb dL_law_399 rfl (lv_at hl 3 rfl) ?_
  refine lv_iconst (v := 2) hx hb dL_law_400 (by decide) ?_
  refine lv_iadd hx hb dL_law_401 ?_
  refine lv_topi (fun x_3 ex_3 => ?_)
  have ex_3 : x_3 = 2 := ex_3.trans (by decide)
  subst ex_3
  refine va_sld hx hb hX hbl hbA hS (i := 2) (vp_in_nI (n := 2) (N := 6) (by omega) (by omega)) dL_law_402 ?_
  refine lv_topi (fun x_4 ex_4 => ?_)
  have ex_4 : x_4 = xs 2 := ex_4.trans (congrArg xs (nI_clamp (n := 2) (by omega)))
  rw [ex_4]
  have hPc := hP.sub (ws' := [(x0, .inr (12, [.ref tp, .int 0, .ref sm, .ref tk, .int 0, .null, .null, .ref as, .ref bs, .ref cs, .ref ds, .int 0, .ref cr, .ref cy, .int 0, .ref tr])), (sm, .inr (8, [.int 0, .long (-9223372036854775808), .ref sm0, .ref sm1, .ref sm2, .ref sm3, .ref sm4, .ref sm5, .int 0])), (sm0, .inl (cI, 6, .inl (fun _ => 0))), (sm3, .inl (cB, 48, .inl (fun _ => 0)))]) [0, 1, 2, 3] rfl
  have hDc := hD.sub (ws' := [(x0, .inr (12, [.ref tp, .int 0, .ref sm, .ref tk, .int 0, .null, .null, .ref as, .ref bs, .ref cs, .ref ds, .int 0, .ref cr, .ref cy, .int 0, .ref tr])), (sm, .inr (8, [.int 0, .long (-9223372036854775808), .ref sm0, .ref sm1, .ref sm2, .ref sm3, .ref sm4, .ref sm5, .int 0])), (sm0, .inl (cI, 6, .inl (fun _ => 0))), (sm3, .inl (cB, 48, .inl (fun _ => 0)))]) [0, 1, 2, 3] (by decide) rfl
  have hKc := hK.sub (tys' := [(cB, .byte), (cI, .int), (cJ, .long), (cZ, .boolean)]) [0, 1, 2, 3] rfl
  have hFc := va_free (wc := [(x0, .inr (12, [.ref tp, .int 0, .ref sm, .ref tk, .int 0, .null, .null, .ref as, .ref bs, .ref cs, .ref ds, .int 0, .ref cr, .ref cy, .int 0, .ref tr])), (sm, .inr (8, [.int 0, .long (-9223372036854775808), .ref sm0, .ref sm1, .ref sm2, .ref sm3, .ref sm4, .ref sm5, .int 0])), (sm0, .inl (cI, 6, .inl (fun _ => 0))), (sm3, .inl (cB, 48, .inl (fun _ => 0)))]) hD hS hA [0, 1, 2, 3] rfl
  refine va_calli (va_runV (As := [.int (xs 1), .int (xs 2)]) (rest := []) ⟨hx, hb, hml, hown, hts⟩ (t_X11_back_oi l dC dI H.size cB cI cJ cZ x0 sm (.ref tp) (.ref tk) .null (.ref as) (.ref bs) (.ref cs) (.ref ds) (.ref cr) (.ref cy) (.ref tr) 0 0 0 0 sm0 sm3 0 (fun _ => 0) (fun _ => 0) (-9223372036854775808) (.ref sm1) (.ref sm2) (.ref sm4) (.ref sm5) 0 (xs 1) (xs 2) (by omega) (lt_or_0 _)) (cwV 2 hts (gd_law (in_V kw_1596 kw_1597 kw_1598 kw_181 kc_X11_back)) rfl rfl rfl (by decide +kernel) ⟨Nat.le_of_ble_eq_true rfl, Nat.le_of_ble_eq_true rfl⟩) ⟨fun a U g mk q => by obtain ⟨q0, q1, qP, qK, qD⟩ := q; exact ⟨q0, q1, qP, va_K.moved (u := U) (U := U.calling g mk a) (Vm.Alike.refl U.vm) qK, qD⟩, va_recv hKc hPc (ci := 12) (q0 := 0) rfl rfl, fun U hU hW => ⟨rfl, by rw [hU], by rw [hU]; exact hPc, va_K.moved hW.alike hKc, hDc.weaken (fun _ _ _ _ => trivial)⟩⟩ rfl rfl hl.1 rfl (lv_room (Nat.le_of_ble_eq_true rfl)) dL_law_403 ⟨Nat.le_of_ble_eq_true rfl, Nat.le_of_ble_eq_true rfl⟩) hS (fun q _ h => hFc q h) hFc (fun r_5 u t_ H1 locs ht hvm hw hB hz1 hk1 hS => ?_)
  obtain ⟨hP1, hK1, hD1⟩ := hB
  rw [ht] at hP1
  have hK1 := va_K.moved hvm.symm hK1
  obtain ⟨hP, hD⟩ := va_join (wr := [(mo, .inr (13, moF a (fun _ => 0) (-9223372036854775808))), (a 6, .inl (cZ, 48, .inl (fun _ => 0)))]) (w1 := [(x0, .inr (12, [.ref tp, .int 0, .ref sm, .ref tk, .int 0, .null, .null, .ref as, .ref bs, .ref cs, .ref ds, .int 0, .ref cr, .ref cy, .int 0, .ref tr])), (sm, .inr (8, [.int 0, .long (-9223372036854775808), .ref sm0, .ref sm1, .ref sm2, .ref sm3, .ref sm4, .ref sm5, .int 0])), (sm0, .inl (cI, 6, .inl (fun _ => 0))), (sm3, .inl (cB, 48, .inl (fun _ => 0)))]) hP hD [0, 1, 2, 3] [4, 5] rfl rfl (by decide) (by decide) hk1 hFc hP1 hD1
  have hK := (hK.sub (tys' := [(cS, .object "StreamQueries$Source"), (cO, .object "java/lang/Object")]) [4, 5] rfl).app hK1
  generalize H1 = H at hP hS ⊢
  have hP : va_P (dC, dI) vwCl [(mo, .inr (13, moF a (fun _ => 0) (-9223372036854775808))), (a 6, .inl (cZ, 48, .inl (fun _ => 0))), (x0, .inr (12, [.ref tp, .int 0, .ref sm, .ref tk, .int 0, .null, .null, .ref as, .ref bs, .ref cs, .ref ds, .int 0, .ref cr, .ref cy, .int 0, .ref tr])), (sm, .inr (8, [.int 0, .long (-9223372036854775808), .ref sm0, .ref sm1, .ref sm2, .ref sm3, .ref sm4, .ref sm5, .int 0])), (sm0, .inl (cI, 6, .inl (fun _ => 0))), (sm3, .inl (cB, 48, .inl (fun _ => 0)))] H := hP
  have hD : va_D A [(mo, .inr (13, moF a (fun _ => 0) (-9223372036854775808))), (a 6, .inl (cZ, 48, .inl (fun _ => 0))), (x0, .inr (12, [.ref tp, .int 0, .ref sm, .ref tk, .int 0, .null, .null, .ref as, .ref bs, .ref cs, .ref ds, .int 0, .ref cr, .ref cy, .int 0, .ref tr])), (sm, .inr (8, [.int 0, .long (-9223372036854775808), .ref sm0, .ref sm1, .ref sm2, .ref sm3, .ref sm4, .ref sm5, .int 0])), (sm0, .inl (cI, 6, .inl (fun _ => 0))), (sm3, .inl (cB, 48, .inl (fun _ => 0)))] := hD
  have hK : va_K (dC, dI) vwCl [(cS, .object "StreamQueries$Source"), (cO, .object "java/lang/Object"), (cB, .byte), (cI, .int), (cJ, .long), (cZ, .boolean)] s := hK
  have er_5 : r_5 = 0 := hw
  rw [er_5]
  refine lv_aload_n hx hb dL_law_406 rfl (lv_at hl 2 rfl) ?_
  refine lv_aload_n hx hb dL_law_407 rfl (lv_at hl 0 rfl) ?_
  refine lv_iload_n hx hb dL_law_408 rfl (lv_at hl 3 rfl) ?_
  refine lv_iconst (v := 1) hx hb dL_law_409 (by decide) ?_
  refine lv_iadd hx hb dL_law_410 ?_
  refine lv_topi (fun x_6 ex_6 => ?_)
  have ex_6 : x_6 = 1 := ex_6.trans (by decide)
  subst ex_6
  refine va_sld hx hb hX hbl hbA hS (i := 1) (vp_in_nI (n := 1) (N := 6) (by omega) (by omega)) dL_law_411 ?_
  refine lv_topi (fun x_7 ex_7 => ?_)
  have ex_7 : x_7 = xs 1 := ex_7.trans (congrArg xs (nI_clamp (n := 1) (by omega)))
  rw [ex_7]
  refine lv_aload_n hx hb dL_law_412 rfl (lv_at hl 0 rfl) ?_
  refine lv_iload_n hx hb dL_law_413 rfl (lv_at hl 3 rfl) ?_
  refine lv_iconst (v := 2) hx hb dL_law_414 (by decide) ?_
  refine lv_iadd hx hb dL_law_415 ?_
  refine lv_topi (fun x_8 ex_8 => ?_)
  have ex_8 : x_8 = 2 := ex_8.trans (by decide)
  subst ex_8
  refine va_sld hx hb hX hbl hbA hS (i := 2) (vp_in_nI (n := 2) (N := 6) (by omega) (by omega)) dL_law_416 ?_
  refine lv_topi (fun x_9 ex_9 => ?_)
  have ex_9 : x_9 = xs 2 := ex_9.trans (congrArg xs (nI_clamp (n := 2) (by omega)))
  rw [ex_9]
  have hPc := hP.sub (ws' := [(mo, .inr (13, moF a (fun _ => 0) (-9223372036854775808))), (a 6, .inl (cZ, 48, .inl (fun _ => 0)))]) [0, 1] rfl
  have hDc := hD.sub (ws' := [(mo, .inr (13, moF a (fun _ => 0) (-9223372036854775808))), (a 6, .inl (cZ, 48, .inl (fun _ => 0)))]) [0, 1] (by decide) rfl
  have hKc := hK.sub (tys' := [(cB, .byte), (cI, .int), (cJ, .long), (cZ, .boolean)]) [2, 3, 4, 5] rfl
  have hFc := va_free (wc := [(mo, .inr (13, moF a (fun _ => 0) (-9223372036854775808))), (a 6, .inl (cZ, 48, .inl (fun _ => 0)))]) hD hS hA [0, 1] rfl
  refine va_calli (va_runV (As := [.int (xs 1), .int (xs 2)]) (rest := [.int 0]) ⟨hx, hb, hml, hown, hts⟩ (t_X12_back_oi l dC dI H.size cB cI cJ cZ mo a (fun _ => 0) (-9223372036854775808) 0 (fun _ => 0) (xs 1) (xs 2) (by omega) (lt_or_0 _)) (cwV 2 hts (gd_law (in_V kw_2209 kw_2210 kw_2211 kw_191 kc_X12_back)) rfl rfl rfl (by decide +kernel) ⟨Nat.le_of_ble_eq_true rfl, Nat.le_of_ble_eq_true rfl⟩) ⟨fun a U g mk q => by obtain ⟨q0, q1, qP, qK, qD⟩ := q; exact ⟨q0, q1, qP, va_K.moved (u := U) (U := U.calling g mk a) (Vm.Alike.refl U.vm) qK, qD⟩, va_recv hKc hPc (ci := 13) (q0 := 0) rfl rfl, fun U hU hW => ⟨rfl, by rw [hU], by rw [hU]; exact hPc, va_K.moved hW.alike hKc, hDc.weaken (fun _ _ _ _ => trivial)⟩⟩ rfl rfl hl.1 rfl (lv_room (Nat.le_of_ble_eq_true rfl)) dL_law_417 ⟨Nat.le_of_ble_eq_true rfl, Nat.le_of_ble_eq_true rfl⟩) hS (fun q _ h => hFc q h) hFc (fun r_10 u t_ H1 locs ht hvm hw hB hz1 hk1 hS => ?_)
  obtain ⟨hP1, hK1, hD1⟩ := hB
  rw [ht] at hP1
  have hK1 := va_K.moved hvm.symm hK1
  obtain ⟨hP, hD⟩ := va_join (wr := [(x0, .inr (12, [.ref tp, .int 0, .ref sm, .ref tk, .int 0, .null, .null, .ref as, .ref bs, .ref cs, .ref ds, .int 0, .ref cr, .ref cy, .int 0, .ref tr])), (sm, .inr (8, [.int 0, .long (-9223372036854775808), .ref sm0, .ref sm1, .ref sm2, .ref sm3, .ref sm4, .ref sm5, .int 0])), (sm0, .inl (cI, 6, .inl (fun _ => 0))), (sm3, .inl (cB, 48, .inl (fun _ => 0)))]) (w1 := [(mo, .inr (13, moF a (upd (fun _ => 0) 110 0) (-9223372036854775808))), (a 6, .inl (cZ, 48, .inl (fun _ => 0)))]) hP hD [0, 1] [2, 3, 4, 5] rfl rfl (by decide) (by decide) hk1 hFc hP1 hD1
  have hK := (hK.sub (tys' := [(cS, .object "StreamQueries$Source"), (cO, .object "java/lang/Object")]) [0, 1] rfl).app hK1
  generalize H1 = H at hP hS ⊢
  have hP : va_P (dC, dI) vwCl [(x0, .inr (12, [.ref tp, .int 0, .ref sm, .ref tk, .int 0, .null, .null, .ref as, .ref bs, .ref cs, .ref ds, .int 0, .ref cr, .ref cy, .int 0, .ref tr])), (sm, .inr (8, [.int 0, .long (-9223372036854775808), .ref sm0, .ref sm1, .ref sm2, .ref sm3, .ref sm4, .ref sm5, .int 0])), (sm0, .inl (cI, 6, .inl (fun _ => 0))), (sm3, .inl (cB, 48, .inl (fun _ => 0))), (mo, .inr (13, moF a (upd (fun _ => 0) 110 0) (-9223372036854775808))), (a 6, .inl (cZ, 48, .inl (fun _ => 0)))] H := hP
  have hD : va_D A [(x0, .inr (12, [.ref tp, .int 0, .ref sm, .ref tk, .int 0, .null, .null, .ref as, .ref bs, .ref cs, .ref ds, .int 0, .ref cr, .ref cy, .int 0, .ref tr])), (sm, .inr (8, [.int 0, .long (-9223372036854775808), .ref sm0, .ref sm1, .ref sm2, .ref sm3, .ref sm4, .ref sm5, .int 0])), (sm0, .inl (cI, 6, .inl (fun _ => 0))), (sm3, .inl (cB, 48, .inl (fun _ => 0))), (mo, .inr (13, moF a (upd (fun _ => 0) 110 0) (-9223372036854775808))), (a 6, .inl (cZ, 48, .inl (fun _ => 0)))] := hD
  have hK : va_K (dC, dI) vwCl [(cS, .object "StreamQueries$Source"), (cO, .object "java/lang/Object"), (cB, .byte), (cI, .int), (cJ, .long), (cZ, .boolean)] s := hK
  have er_10 : r_10 = 0 := hw
  rw [er_10]
  refine lv_icmp_eq (tgt := 750) hx hb dL_law_420 (by decide) (fun c_11 => ?_) (fun c_11 => ?_)
  · skip
    exact law_tail C0 hA hbA hAf (Nat.le_of_ble_eq_true rfl) (Nat.le_of_ble_eq_true rfl) hS (lv_sub hl [0, 1, 2, 3] rfl)
  · skip
    exact absurd c_11 (by decide)
set_option maxHeartbeats 4000000 in
set_option maxRecDepth 100000 in
theorem lc_9 {p : Program} {l : Launch} {e : Env} {s : State} {m : MethodId} {below : List Frame} {meth : Method} {c : Code} {dC : Nat → ClassId} {dI : Nat → Nat → Nat} {cB cI cJ cZ cS cO : ClassId} {b : Nat} {xs : Nat → Int32} {K V : Nat → Nat} {fz : Value} {A : Nat → Prop} {as as0 as1 as2 as3 bs bs0 bs1 bs2 bs3 cr cs cs0 cs1 cs2 cs3 cy ds ds0 ds1 ds2 ds3 mo sm sm0 sm1 sm2 sm3 sm4 sm5 tk tk0 tk1 tk2 tk3 tk4 tp tr tr0 tr1 tr10 tr2 tr3 tr4 tr5 tr6 tr7 tr8 tr9 x0 : Nat} {a : Nat → Nat} (C0 : lw_At p s m meth c b 6 xs) (hZ : zE K V fz A s) (hA : ∀ q : Nat, s.heap.size ≤ q → A q) (hbA : ¬ A b) (hAf : ∀ q : Nat, A q → s.heap.size ≤ q)  (hK : va_K (dC, dI) vwCl [(cB, .byte), (cI, .int), (cJ, .long), (cZ, .boolean), (cS, .object "StreamQueries$Source"), (cO, .object "java/lang/Object")] s) {H : Heap} {locs : List Loc} {ls : Array Slot} (hP : va_P (dC, dI) vwCl [(x0, .inr (12, [.ref tp, .int 0, .ref sm, .ref tk, .int 0, .null, .null, .ref as, .ref bs, .ref cs, .ref ds, .int 0, .ref cr, .ref cy, .int 0, .ref tr])), (sm, .inr (8, [.int 0, .long (-9223372036854775808), .ref sm0, .ref sm1, .ref sm2, .ref sm3, .ref sm4, .ref sm5, .int 0])), (mo, .inr (13, moF a (fun _ => 0) (-9223372036854775808)))] H) (hD : va_D A [(x0, .inr (12, [.ref tp, .int 0, .ref sm, .ref tk, .int 0, .null, .null, .ref as, .ref bs, .ref cs, .ref ds, .int 0, .ref cr, .ref cy, .int 0, .ref tr])), (sm, .inr (8, [.int 0, .long (-9223372036854775808), .ref sm0, .ref sm1, .ref sm2, .ref sm3, .ref sm4, .ref sm5, .int 0])), (mo, .inr (13, moF a (fun _ => 0) (-9223372036854775808)))]) (hS : va_S A s.heap H locs) (hl : lv_has ls 4 [(0, .ref b), (1, .ref x0), (2, .ref mo), (3, .int 0)]) : W p l e room_1 s m #[Value.ref b] below meth c H locs 127 886803 (lw_Z below #[Value.ref b] s) (F0 m 425 ls []) := by
  obtain ⟨hx, hb, hr, hml, hown, hts, hX, hbl, hlocks, hgv⟩ := id C0
  refine lv_aload_n hx hb dL_law_425 rfl (lv_at hl 1 rfl) ?_
  refine lv_aload_n hx hb dL_law_426 rfl (lv_at hl 0 rfl) ?_
  refine lv_iload_n hx hb dL_law_427 rfl (lv_at hl 3 rfl) ?_
  refine lv_iconst (v := 1) hx hb dL_law_428 (by decide) ?_
  refine lv_iadd hx hb dL_law_429 ?_
  refine lv_topi (fun x_1 ex_1 => ?_)
  have ex_1 : x_1 = 1 := ex_1.trans (by decide)
  subst ex_1
  refine va_sld hx hb hX hbl hbA hS (i := 1) (vp_in_nI (n := 1) (N := 6) (by omega) (by omega)) dL_law_430 ?_
  refine lv_topi (fun x_2 ex_2 => ?_)
  have ex_2 : x_2 = xs 1 := ex_2.trans (congrArg xs (nI_clamp (n := 1) (by omega)))
  rw [ex_2]
  refine lv_i2l hx hb dL_law_431 rfl ?_
  refine lv_bipush (v := 32) hx hb dL_law_432 (by decide) ?_
  refine lv_lshl (v := ((xs 1).toInt64) <<< ((32 : Int32).toInt64 &&& 63)) hx hb dL_law_434 rfl ?_
  refine lv_aload_n hx hb dL_law_435 rfl (lv_at hl 0 rfl) ?_
  refine lv_iload_n hx hb dL_law_436 rfl (lv_at hl 3 rfl) ?_
  refine lv_iconst (v := 2) hx hb dL_law_437 (by decide) ?_
  refine lv_iadd hx hb dL_law_438 ?_
  refine lv_topi (fun x_3 ex_3 => ?_)
  have ex_3 : x_3 = 2 := ex_3.trans (by decide)
  subst ex_3
  refine va_sld hx hb hX hbl hbA hS (i := 2) (vp_in_nI (n := 2) (N := 6) (by omega) (by omega)) dL_law_439 ?_
  refine lv_topi (fun x_4 ex_4 => ?_)
  have ex_4 : x_4 = xs 2 := ex_4.trans (congrArg xs (nI_clamp (n := 2) (by omega)))
  rw [ex_4]
  refine lv_i2l hx hb dL_law_440 rfl ?_
  refine lv_ldc2 hx hb hown (hts _ (kG_in kw_2508)) dL_law_441 ?_
  refine lv_land hx hb dL_law_444 ?_
  refine lv_lor hx hb dL_law_445 ?_
  have hPc := hP.sub (ws' := [(x0, .inr (12, [.ref tp, .int 0, .ref sm, .ref tk, .int 0, .null, .null, .ref as, .ref bs, .ref cs, .ref ds, .int 0, .ref cr, .ref cy, .int 0, .ref tr])), (sm, .inr (8, [.int 0, .long (-9223372036854775808), .ref sm0, .ref sm1, .ref sm2, .ref sm3, .ref sm4, .ref sm5, .int 0]))]) [0, 1] rfl
  have hDc := hD.sub (ws' := [(x0, .inr (12, [.ref tp, .int 0, .ref sm, .ref tk, .int 0, .null, .null, .ref as, .ref bs, .ref cs, .ref ds, .int 0, .ref cr, .ref cy, .int 0, .ref tr])), (sm, .inr (8, [.int 0, .long (-9223372036854775808), .ref sm0, .ref sm1, .ref sm2, .ref sm3, .ref sm4, .ref sm5, .int 0]))]) [0, 1] (by decide) rfl
  have hKc := hK.sub (tys' := [(cB, .byte), (cI, .int), (cJ, .long), (cZ, .boolean)]) [0, 1, 2, 3] rfl
  have hFc := va_free (wc := [(x0, .inr (12, [.ref tp, .int 0, .ref sm, .ref tk, .int 0, .null, .null, .ref as, .ref bs, .ref cs, .ref ds, .int 0, .ref cr, .ref cy, .int 0, .ref tr])), (sm, .inr (8, [.int 0, .long (-9223372036854775808), .ref sm0, .ref sm1, .ref sm2, .ref sm3, .ref sm4, .ref sm5, .int 0]))]) hD hS hA [0, 1] rfl
  refine va_calli (va_runV (As := [.long ((((xs 1).toInt64) <<< ((32 : Int32).toInt64 &&& 63)) ||| (((xs 2).toInt64) &&& (4294967295)))]) (rest := []) ⟨hx, hb, hml, hown, hts⟩ (t_X11_watermark_0 l dC dI H.size cB cI cJ cZ x0 sm (.ref tp) (.ref tk) .null (.ref as) (.ref bs) (.ref cs) (.ref ds) (.ref cr) (.ref cy) (.ref tr) 0 0 0 0 (.ref sm0) (.ref sm1) (.ref sm2) (.ref sm3) (.ref sm4) (.ref sm5) 0 0 (-9223372036854775808) ((((xs 1).toInt64) <<< ((32 : Int32).toInt64 &&& 63)) ||| (((xs 2).toInt64) &&& (4294967295)))) (cwV 1 hts (gd_law (in_V kw_1604 kw_1605 kw_1606 kw_181 kc_X11_watermark)) rfl rfl rfl (by decide +kernel) ⟨Nat.le_of_ble_eq_true rfl, Nat.le_of_ble_eq_true rfl⟩) ⟨fun a U g mk q => by obtain ⟨q0, q1, qP, qK, qD⟩ := q; exact ⟨q0, q1, qP, va_K.moved (u := U) (U := U.calling g mk a) (Vm.Alike.refl U.vm) qK, qD⟩, va_recv hKc hPc (ci := 12) (q0 := 0) rfl rfl, fun U hU hW => ⟨rfl, by rw [hU], by rw [hU]; exact hPc, va_K.moved hW.alike hKc, hDc.weaken (fun _ _ _ _ => trivial)⟩⟩ rfl rfl hl.1 rfl (lv_room (Nat.le_of_ble_eq_true rfl)) dL_law_446 ⟨Nat.le_of_ble_eq_true rfl, Nat.le_of_ble_eq_true rfl⟩) hS (fun q _ h => hFc q h) hFc (fun r_5 u t_ H1 locs ht hvm hw hB hz1 hk1 hS => ?_)
  obtain ⟨w5_, hw5_⟩ : ∃ z : Int64, z = u := ⟨u, rfl⟩
  subst hw5_
  obtain ⟨hP1, hK1, hD1⟩ := hB
  obtain ⟨hw, -⟩ := hw
  rw [ht] at hP1
  have hK1 := va_K.moved hvm.symm hK1
  obtain ⟨hP, hD⟩ := va_join (wr := [(mo, .inr (13, moF a (fun _ => 0) (-9223372036854775808)))]) (w1 := [(x0, .inr (12, [.ref tp, .int 0, .ref sm, .ref tk, .int 0, .null, .null, .ref as, .ref bs, .ref cs, .ref ds, .int 0, .ref cr, .ref cy, .int 0, .ref tr])), (sm, .inr (8, [.int 0, .long w5_, .ref sm0, .ref sm1, .ref sm2, .ref sm3, .ref sm4, .ref sm5, .int 0]))]) hP hD [0, 1] [2] rfl rfl (by decide) (by decide) hk1 hFc hP1 hD1
  have hK := (hK.sub (tys' := [(cS, .object "StreamQueries$Source"), (cO, .object "java/lang/Object")]) [4, 5] rfl).app hK1
  generalize H1 = H at hP hS ⊢
  have hP : va_P (dC, dI) vwCl [(mo, .inr (13, moF a (fun _ => 0) (-9223372036854775808))), (x0, .inr (12, [.ref tp, .int 0, .ref sm, .ref tk, .int 0, .null, .null, .ref as, .ref bs, .ref cs, .ref ds, .int 0, .ref cr, .ref cy, .int 0, .ref tr])), (sm, .inr (8, [.int 0, .long w5_, .ref sm0, .ref sm1, .ref sm2, .ref sm3, .ref sm4, .ref sm5, .int 0]))] H := hP
  have hD : va_D A [(mo, .inr (13, moF a (fun _ => 0) (-9223372036854775808))), (x0, .inr (12, [.ref tp, .int 0, .ref sm, .ref tk, .int 0, .null, .null, .ref as, .ref bs, .ref cs, .ref ds, .int 0, .ref cr, .ref cy, .int 0, .ref tr])), (sm, .inr (8, [.int 0, .long w5_, .ref sm0, .ref sm1, .ref sm2, .ref sm3, .ref sm4, .ref sm5, .int 0]))] := hD
  have hK : va_K (dC, dI) vwCl [(cS, .object "StreamQueries$Source"), (cO, .object "java/lang/Object"), (cB, .byte), (cI, .int), (cJ, .long), (cZ, .boolean)] s := hK
  have er_5 : r_5 = 0 := hw
  rw [er_5]
  refine lv_aload_n hx hb dL_law_449 rfl (lv_at hl 2 rfl) ?_
  refine lv_aload_n hx hb dL_law_450 rfl (lv_at hl 0 rfl) ?_
  refine lv_iload_n hx hb dL_law_451 rfl (lv_at hl 3 rfl) ?_
  refine lv_iconst (v := 1) hx hb dL_law_452 (by decide) ?_
  refine lv_iadd hx hb dL_law_453 ?_
  refine lv_topi (fun x_6 ex_6 => ?_)
  have ex_6 : x_6 = 1 := ex_6.trans (by decide)
  subst ex_6
  refine va_sld hx hb hX hbl hbA hS (i := 1) (vp_in_nI (n := 1) (N := 6) (by omega) (by omega)) dL_law_454 ?_
  refine lv_topi (fun x_7 ex_7 => ?_)
  have ex_7 : x_7 = xs 1 := ex_7.trans (congrArg xs (nI_clamp (n := 1) (by omega)))
  rw [ex_7]
  refine lv_i2l hx hb dL_law_455 rfl ?_
  refine lv_bipush (v := 32) hx hb dL_law_456 (by decide) ?_
  refine lv_lshl (v := ((xs 1).toInt64) <<< ((32 : Int32).toInt64 &&& 63)) hx hb dL_law_458 rfl ?_
  refine lv_aload_n hx hb dL_law_459 rfl (lv_at hl 0 rfl) ?_
  refine lv_iload_n hx hb dL_law_460 rfl (lv_at hl 3 rfl) ?_
  refine lv_iconst (v := 2) hx hb dL_law_461 (by decide) ?_
  refine lv_iadd hx hb dL_law_462 ?_
  refine lv_topi (fun x_8 ex_8 => ?_)
  have ex_8 : x_8 = 2 := ex_8.trans (by decide)
  subst ex_8
  refine va_sld hx hb hX hbl hbA hS (i := 2) (vp_in_nI (n := 2) (N := 6) (by omega) (by omega)) dL_law_463 ?_
  refine lv_topi (fun x_9 ex_9 => ?_)
  have ex_9 : x_9 = xs 2 := ex_9.trans (congrArg xs (nI_clamp (n := 2) (by omega)))
  rw [ex_9]
  refine lv_i2l hx hb dL_law_464 rfl ?_
  refine lv_ldc2 hx hb hown (hts _ (kG_in kw_2508)) dL_law_465 ?_
  refine lv_land hx hb dL_law_468 ?_
  refine lv_lor hx hb dL_law_469 ?_
  have hPc := hP.sub (ws' := [(mo, .inr (13, moF a (fun _ => 0) (-9223372036854775808)))]) [0] rfl
  have hDc := hD.sub (ws' := [(mo, .inr (13, moF a (fun _ => 0) (-9223372036854775808)))]) [0] (by decide) rfl
  have hKc := hK.sub (tys' := [(cB, .byte), (cI, .int), (cJ, .long), (cZ, .boolean)]) [2, 3, 4, 5] rfl
  have hFc := va_free (wc := [(mo, .inr (13, moF a (fun _ => 0) (-9223372036854775808)))]) hD hS hA [0] rfl
  refine va_calli (va_runV (As := [.long ((((xs 1).toInt64) <<< ((32 : Int32).toInt64 &&& 63)) ||| (((xs 2).toInt64) &&& (4294967295)))]) (rest := [.int 0]) ⟨hx, hb, hml, hown, hts⟩ (t_X12_watermark_0 l dC dI H.size cB cI cJ cZ mo a (fun _ => 0) (-9223372036854775808) ((((xs 1).toInt64) <<< ((32 : Int32).toInt64 &&& 63)) ||| (((xs 2).toInt64) &&& (4294967295))) rfl) (cwV 1 hts (gd_law (in_V kw_2213 kw_2214 kw_2215 kw_191 kc_X12_watermark)) rfl rfl rfl (by decide +kernel) ⟨Nat.le_of_ble_eq_true rfl, Nat.le_of_ble_eq_true rfl⟩) ⟨fun a U g mk q => by obtain ⟨q0, q1, qP, qK, qD⟩ := q; exact ⟨q0, q1, qP, va_K.moved (u := U) (U := U.calling g mk a) (Vm.Alike.refl U.vm) qK, qD⟩, va_recv hKc hPc (ci := 13) (q0 := 0) rfl rfl, fun U hU hW => ⟨rfl, by rw [hU], by rw [hU]; exact hPc, va_K.moved hW.alike hKc, hDc.weaken (fun _ _ _ _ => trivial)⟩⟩ rfl rfl hl.1 rfl (lv_room (Nat.le_of_ble_eq_true rfl)) dL_law_470 ⟨Nat.le_of_ble_eq_true rfl, Nat.le_of_ble_eq_true rfl⟩) hS (fun q _ h => hFc q h) hFc (fun r_10 u t_ H1 locs ht hvm hw hB hz1 hk1 hS => ?_)
  obtain ⟨w10_, hw10_⟩ : ∃ z : Int64, z = u := ⟨u, rfl⟩
  subst hw10_
  obtain ⟨hP1, hK1, hD1⟩ := hB
  obtain ⟨hw, -⟩ := hw
  rw [ht] at hP1
  have hK1 := va_K.moved hvm.symm hK1
  obtain ⟨hP, hD⟩ := va_join (wr := [(x0, .inr (12, [.ref tp, .int 0, .ref sm, .ref tk, .int 0, .null, .null, .ref as, .ref bs, .ref cs, .ref ds, .int 0, .ref cr, .ref cy, .int 0, .ref tr])), (sm, .inr (8, [.int 0, .long w5_, .ref sm0, .ref sm1, .ref sm2, .ref sm3, .ref sm4, .ref sm5, .int 0]))]) (w1 := [(mo, .inr (13, moF a (upd (fun _ => 0) 110 0) w10_))]) hP hD [0] [1, 2] rfl rfl (by decide) (by decide) hk1 hFc hP1 hD1
  have hK := (hK.sub (tys' := [(cS, .object "StreamQueries$Source"), (cO, .object "java/lang/Object")]) [0, 1] rfl).app hK1
  generalize H1 = H at hP hS ⊢
  have hP : va_P (dC, dI) vwCl [(x0, .inr (12, [.ref tp, .int 0, .ref sm, .ref tk, .int 0, .null, .null, .ref as, .ref bs, .ref cs, .ref ds, .int 0, .ref cr, .ref cy, .int 0, .ref tr])), (sm, .inr (8, [.int 0, .long w5_, .ref sm0, .ref sm1, .ref sm2, .ref sm3, .ref sm4, .ref sm5, .int 0])), (mo, .inr (13, moF a (upd (fun _ => 0) 110 0) w10_))] H := hP
  have hD : va_D A [(x0, .inr (12, [.ref tp, .int 0, .ref sm, .ref tk, .int 0, .null, .null, .ref as, .ref bs, .ref cs, .ref ds, .int 0, .ref cr, .ref cy, .int 0, .ref tr])), (sm, .inr (8, [.int 0, .long w5_, .ref sm0, .ref sm1, .ref sm2, .ref sm3, .ref sm4, .ref sm5, .int 0])), (mo, .inr (13, moF a (upd (fun _ => 0) 110 0) w10_))] := hD
  have hK : va_K (dC, dI) vwCl [(cS, .object "StreamQueries$Source"), (cO, .object "java/lang/Object"), (cB, .byte), (cI, .int), (cJ, .long), (cZ, .boolean)] s := hK
  have er_10 : r_10 = 0 := hw
  rw [er_10]
  refine lv_icmp_eq (tgt := 750) hx hb dL_law_473 (by decide) (fun c_11 => ?_) (fun c_11 => ?_)
  · skip
    exact law_tail C0 hA hbA hAf (Nat.le_of_ble_eq_true rfl) (Nat.le_of_ble_eq_true rfl) hS (lv_sub hl [0, 1, 2, 3] rfl)
  · skip
    exact absurd c_11 (by decide)
set_option maxHeartbeats 4000000 in
set_option maxRecDepth 100000 in
theorem lc_10 {p : Program} {l : Launch} {e : Env} {s : State} {m : MethodId} {below : List Frame} {meth : Method} {c : Code} {dC : Nat → ClassId} {dI : Nat → Nat → Nat} {cB cI cJ cZ cS cO : ClassId} {b : Nat} {xs : Nat → Int32} {K V : Nat → Nat} {fz : Value} {A : Nat → Prop} {as as0 as1 as2 as3 bs bs0 bs1 bs2 bs3 cr cs cs0 cs1 cs2 cs3 cy ds ds0 ds1 ds2 ds3 mo sm sm0 sm1 sm2 sm3 sm4 sm5 tk tk0 tk1 tk2 tk3 tk4 tp tr tr0 tr1 tr10 tr2 tr3 tr4 tr5 tr6 tr7 tr8 tr9 x0 : Nat} {a : Nat → Nat} (C0 : lw_At p s m meth c b 6 xs) (hZ : zE K V fz A s) (hA : ∀ q : Nat, s.heap.size ≤ q → A q) (hbA : ¬ A b) (hAf : ∀ q : Nat, A q → s.heap.size ≤ q)  (hK : va_K (dC, dI) vwCl [(cB, .byte), (cI, .int), (cJ, .long), (cZ, .boolean), (cS, .object "StreamQueries$Source"), (cO, .object "java/lang/Object")] s) {H : Heap} {locs : List Loc} {ls : Array Slot} (hP : va_P (dC, dI) vwCl [(x0, .inr (12, [.ref tp, .int 0, .ref sm, .ref tk, .int 0, .null, .null, .ref as, .ref bs, .ref cs, .ref ds, .int 0, .ref cr, .ref cy, .int 0, .ref tr])), (mo, .inr (13, moF a (fun _ => 0) (-9223372036854775808)))] H) (hD : va_D A [(x0, .inr (12, [.ref tp, .int 0, .ref sm, .ref tk, .int 0, .null, .null, .ref as, .ref bs, .ref cs, .ref ds, .int 0, .ref cr, .ref cy, .int 0, .ref tr])), (mo, .inr (13, moF a (fun _ => 0) (-9223372036854775808)))]) (hS : va_S A s.heap H locs) (hl : lv_has ls 4 [(0, .ref b), (1, .ref x0), (2, .ref mo), (3, .int 0)]) : W p l e room_1 s m #[Value.ref b] below meth c H locs 127 886803 (lw_Z below #[Value.ref b] s) (F0 m 478 ls []) := by
  obtain ⟨hx, hb, hr, hml, hown, hts, hX, hbl, hlocks, hgv⟩ := id C0
  refine lv_aload_n hx hb dL_law_478 rfl (lv_at hl 1 rfl) ?_
  have hPc := hP.sub (ws' := [(x0, .inr (12, [.ref tp, .int 0, .ref sm, .ref tk, .int 0, .null, .null, .ref as, .ref bs, .ref cs, .ref ds, .int 0, .ref cr, .ref cy, .int 0, .ref tr]))]) [0] rfl
  have hDc := hD.sub (ws' := [(x0, .inr (12, [.ref tp, .int 0, .ref sm, .ref tk, .int 0, .null, .null, .ref as, .ref bs, .ref cs, .ref ds, .int 0, .ref cr, .ref cy, .int 0, .ref tr]))]) [0] (by decide) rfl
  have hKc := hK.sub (tys' := []) [] rfl
  have hFc := va_free (wc := [(x0, .inr (12, [.ref tp, .int 0, .ref sm, .ref tk, .int 0, .null, .null, .ref as, .ref bs, .ref cs, .ref ds, .int 0, .ref cr, .ref cy, .int 0, .ref tr]))]) hD hS hA [0] rfl
  refine va_calli (va_runV (As := []) (rest := []) ⟨hx, hb, hml, hown, hts⟩ (t_X11_changes l dC dI H.size x0 (.ref tp) (.ref sm) (.ref tk) .null .null (.ref as) (.ref bs) (.ref cs) (.ref ds) (.ref cr) (.ref cy) (.ref tr) 0 0 0 0) (cwV 0 hts (gd_law (in_V kw_1608 kw_1609 kw_1610 kw_181 kc_X11_changes)) rfl rfl rfl (by decide +kernel) ⟨Nat.le_of_ble_eq_true rfl, Nat.le_of_ble_eq_true rfl⟩) ⟨fun a U g mk q => by obtain ⟨q0, q1, qP, qK, qD⟩ := q; exact ⟨q0, q1, qP, va_K.moved (u := U) (U := U.calling g mk a) (Vm.Alike.refl U.vm) qK, qD⟩, va_recv hKc hPc (ci := 12) (q0 := 0) rfl rfl, fun U hU hW => ⟨rfl, by rw [hU], by rw [hU]; exact hPc, va_K.moved hW.alike hKc, hDc.weaken (fun _ _ _ _ => trivial)⟩⟩ rfl rfl hl.1 rfl (lv_room (Nat.le_of_ble_eq_true rfl)) dL_law_479 ⟨Nat.le_of_ble_eq_true rfl, Nat.le_of_ble_eq_true rfl⟩) hS (fun q _ h => hFc q h) hFc (fun r_1 u t_ H1 locs ht hvm hw hB hz1 hk1 hS => ?_)
  obtain ⟨hP1, hK1, hD1⟩ := hB
  rw [ht] at hP1
  have hK1 := va_K.moved hvm.symm hK1
  obtain ⟨hP, hD⟩ := va_join (wr := [(mo, .inr (13, moF a (fun _ => 0) (-9223372036854775808)))]) (w1 := [(x0, .inr (12, [.ref tp, .int 0, .ref sm, .ref tk, .int 0, .null, .null, .ref as, .ref bs, .ref cs, .ref ds, .int 0, .ref cr, .ref cy, .int 0, .ref tr]))]) hP hD [0] [1] rfl rfl (by decide) (by decide) hk1 hFc hP1 hD1
  have hK := (hK.sub (tys' := [(cB, .byte), (cI, .int), (cJ, .long), (cZ, .boolean), (cS, .object "StreamQueries$Source"), (cO, .object "java/lang/Object")]) [0, 1, 2, 3, 4, 5] rfl).app hK1
  generalize H1 = H at hP hS ⊢
  have hP : va_P (dC, dI) vwCl [(mo, .inr (13, moF a (fun _ => 0) (-9223372036854775808))), (x0, .inr (12, [.ref tp, .int 0, .ref sm, .ref tk, .int 0, .null, .null, .ref as, .ref bs, .ref cs, .ref ds, .int 0, .ref cr, .ref cy, .int 0, .ref tr]))] H := hP
  have hD : va_D A [(mo, .inr (13, moF a (fun _ => 0) (-9223372036854775808))), (x0, .inr (12, [.ref tp, .int 0, .ref sm, .ref tk, .int 0, .null, .null, .ref as, .ref bs, .ref cs, .ref ds, .int 0, .ref cr, .ref cy, .int 0, .ref tr]))] := hD
  have hK : va_K (dC, dI) vwCl [(cB, .byte), (cI, .int), (cJ, .long), (cZ, .boolean), (cS, .object "StreamQueries$Source"), (cO, .object "java/lang/Object")] s := hK
  have er_1 : r_1 = 0 := hw
  rw [er_1]
  refine lv_aload_n hx hb dL_law_482 rfl (lv_at hl 2 rfl) ?_
  have hPc := hP.sub (ws' := [(mo, .inr (13, moF a (fun _ => 0) (-9223372036854775808)))]) [0] rfl
  have hDc := hD.sub (ws' := [(mo, .inr (13, moF a (fun _ => 0) (-9223372036854775808)))]) [0] (by decide) rfl
  have hKc := hK.sub (tys' := []) [] rfl
  have hFc := va_free (wc := [(mo, .inr (13, moF a (fun _ => 0) (-9223372036854775808)))]) hD hS hA [0] rfl
  refine va_calli (va_runV (As := []) (rest := [.int 0]) ⟨hx, hb, hml, hown, hts⟩ (t_X12_changes l dC dI H.size mo a (fun _ => 0) (-9223372036854775808)) (cwV 0 hts (gd_law (in_V kw_2460 kw_2461 kw_2462 kw_191 kc_X12_changes)) rfl rfl rfl (by decide +kernel) ⟨Nat.le_of_ble_eq_true rfl, Nat.le_of_ble_eq_true rfl⟩) ⟨fun a U g mk q => by obtain ⟨q0, q1, qP, qK, qD⟩ := q; exact ⟨q0, q1, qP, va_K.moved (u := U) (U := U.calling g mk a) (Vm.Alike.refl U.vm) qK, qD⟩, va_recv hKc hPc (ci := 13) (q0 := 0) rfl rfl, fun U hU hW => ⟨rfl, by rw [hU], by rw [hU]; exact hPc, va_K.moved hW.alike hKc, hDc.weaken (fun _ _ _ _ => trivial)⟩⟩ rfl rfl hl.1 rfl (lv_room (Nat.le_of_ble_eq_true rfl)) dL_law_483 ⟨Nat.le_of_ble_eq_true rfl, Nat.le_of_ble_eq_true rfl⟩) hS (fun q _ h => hFc q h) hFc (fun r_2 u t_ H1 locs ht hvm hw hB hz1 hk1 hS => ?_)
  obtain ⟨hP1, hK1, hD1⟩ := hB
  rw [ht] at hP1
  have hK1 := va_K.moved hvm.symm hK1
  obtain ⟨hP, hD⟩ := va_join (wr := [(x0, .inr (12, [.ref tp, .int 0, .ref sm, .ref tk, .int 0, .null, .null, .ref as, .ref bs, .ref cs, .ref ds, .int 0, .ref cr, .ref cy, .int 0, .ref tr]))]) (w1 := [(mo, .inr (13, moF a (fun _ => 0) (-9223372036854775808)))]) hP hD [0] [1] rfl rfl (by decide) (by decide) hk1 hFc hP1 hD1
  have hK := (hK.sub (tys' := [(cB, .byte), (cI, .int), (cJ, .long), (cZ, .boolean), (cS, .object "StreamQueries$Source"), (cO, .object "java/lang/Object")]) [0, 1, 2, 3, 4, 5] rfl).app hK1
  generalize H1 = H at hP hS ⊢
  have hP : va_P (dC, dI) vwCl [(x0, .inr (12, [.ref tp, .int 0, .ref sm, .ref tk, .int 0, .null, .null, .ref as, .ref bs, .ref cs, .ref ds, .int 0, .ref cr, .ref cy, .int 0, .ref tr])), (mo, .inr (13, moF a (fun _ => 0) (-9223372036854775808)))] H := hP
  have hD : va_D A [(x0, .inr (12, [.ref tp, .int 0, .ref sm, .ref tk, .int 0, .null, .null, .ref as, .ref bs, .ref cs, .ref ds, .int 0, .ref cr, .ref cy, .int 0, .ref tr])), (mo, .inr (13, moF a (fun _ => 0) (-9223372036854775808)))] := hD
  have hK : va_K (dC, dI) vwCl [(cB, .byte), (cI, .int), (cJ, .long), (cZ, .boolean), (cS, .object "StreamQueries$Source"), (cO, .object "java/lang/Object")] s := hK
  have er_2 : r_2 = 0 := hw
  rw [er_2]
  refine lv_icmp_eq (tgt := 750) hx hb dL_law_486 (by decide) (fun c_3 => ?_) (fun c_3 => ?_)
  · skip
    exact law_tail C0 hA hbA hAf (Nat.le_of_ble_eq_true rfl) (Nat.le_of_ble_eq_true rfl) hS (lv_sub hl [0, 1, 2, 3] rfl)
  · skip
    exact absurd c_3 (by decide)
set_option maxHeartbeats 4000000 in
set_option maxRecDepth 100000 in
theorem lc_11 {p : Program} {l : Launch} {e : Env} {s : State} {m : MethodId} {below : List Frame} {meth : Method} {c : Code} {dC : Nat → ClassId} {dI : Nat → Nat → Nat} {cB cI cJ cZ cS cO : ClassId} {b : Nat} {xs : Nat → Int32} {K V : Nat → Nat} {fz : Value} {A : Nat → Prop} {as as0 as1 as2 as3 bs bs0 bs1 bs2 bs3 cr cs cs0 cs1 cs2 cs3 cy ds ds0 ds1 ds2 ds3 mo sm sm0 sm1 sm2 sm3 sm4 sm5 tk tk0 tk1 tk2 tk3 tk4 tp tr tr0 tr1 tr10 tr2 tr3 tr4 tr5 tr6 tr7 tr8 tr9 x0 : Nat} {a : Nat → Nat} (C0 : lw_At p s m meth c b 6 xs) (hZ : zE K V fz A s) (hA : ∀ q : Nat, s.heap.size ≤ q → A q) (hbA : ¬ A b) (hAf : ∀ q : Nat, A q → s.heap.size ≤ q)  (hK : va_K (dC, dI) vwCl [(cB, .byte), (cI, .int), (cJ, .long), (cZ, .boolean), (cS, .object "StreamQueries$Source"), (cO, .object "java/lang/Object")] s) {H : Heap} {locs : List Loc} {ls : Array Slot} (hP : va_P (dC, dI) vwCl [(x0, .inr (12, [.ref tp, .int 0, .ref sm, .ref tk, .int 0, .null, .null, .ref as, .ref bs, .ref cs, .ref ds, .int 0, .ref cr, .ref cy, .int 0, .ref tr])), (cy, .inl (cI, 8, .inl (fun _ => 0))), (mo, .inr (13, moF a (fun _ => 0) (-9223372036854775808))), (a 111, .inl (cI, 1300, .inl (fun _ => 0)))] H) (hD : va_D A [(x0, .inr (12, [.ref tp, .int 0, .ref sm, .ref tk, .int 0, .null, .null, .ref as, .ref bs, .ref cs, .ref ds, .int 0, .ref cr, .ref cy, .int 0, .ref tr])), (cy, .inl (cI, 8, .inl (fun _ => 0))), (mo, .inr (13, moF a (fun _ => 0) (-9223372036854775808))), (a 111, .inl (cI, 1300, .inl (fun _ => 0)))]) (hS : va_S A s.heap H locs) (hl : lv_has ls 4 [(0, .ref b), (1, .ref x0), (2, .ref mo), (3, .int 0)]) : W p l e room_1 s m #[Value.ref b] below meth c H locs 127 886803 (lw_Z below #[Value.ref b] s) (F0 m 491 ls []) := by
  obtain ⟨hx, hb, hr, hml, hown, hts, hX, hbl, hlocks, hgv⟩ := id C0
  refine lv_aload_n hx hb dL_law_491 rfl (lv_at hl 1 rfl) ?_
  refine lv_aload_n hx hb dL_law_492 rfl (lv_at hl 0 rfl) ?_
  refine lv_iload_n hx hb dL_law_493 rfl (lv_at hl 3 rfl) ?_
  refine lv_iconst (v := 1) hx hb dL_law_494 (by decide) ?_
  refine lv_iadd hx hb dL_law_495 ?_
  refine lv_topi (fun x_1 ex_1 => ?_)
  have ex_1 : x_1 = 1 := ex_1.trans (by decide)
  subst ex_1
  refine va_sld hx hb hX hbl hbA hS (i := 1) (vp_in_nI (n := 1) (N := 6) (by omega) (by omega)) dL_law_496 ?_
  refine lv_topi (fun x_2 ex_2 => ?_)
  have ex_2 : x_2 = xs 1 := ex_2.trans (congrArg xs (nI_clamp (n := 1) (by omega)))
  rw [ex_2]
  have hPc := hP.sub (ws' := [(x0, .inr (12, [.ref tp, .int 0, .ref sm, .ref tk, .int 0, .null, .null, .ref as, .ref bs, .ref cs, .ref ds, .int 0, .ref cr, .ref cy, .int 0, .ref tr])), (cy, .inl (cI, 8, .inl (fun _ => 0)))]) [0, 1] rfl
  have hDc := hD.sub (ws' := [(x0, .inr (12, [.ref tp, .int 0, .ref sm, .ref tk, .int 0, .null, .null, .ref as, .ref bs, .ref cs, .ref ds, .int 0, .ref cr, .ref cy, .int 0, .ref tr])), (cy, .inl (cI, 8, .inl (fun _ => 0)))]) [0, 1] (by decide) rfl
  have hKc := hK.sub (tys' := [(cB, .byte), (cI, .int), (cJ, .long), (cZ, .boolean)]) [0, 1, 2, 3] rfl
  have hFc := va_free (wc := [(x0, .inr (12, [.ref tp, .int 0, .ref sm, .ref tk, .int 0, .null, .null, .ref as, .ref bs, .ref cs, .ref ds, .int 0, .ref cr, .ref cy, .int 0, .ref tr])), (cy, .inl (cI, 8, .inl (fun _ => 0)))]) hD hS hA [0, 1] rfl
  refine va_calli (va_runV (As := [.int (xs 1)]) (rest := []) ⟨hx, hb, hml, hown, hts⟩ (t_X11_change_o l dC dI H.size cB cI cJ cZ x0 cy 8 0 (fun _ => 0) (.ref tp) (.ref sm) (.ref tk) .null .null (.ref as) (.ref bs) (.ref cs) (.ref ds) (.ref cr) (.ref tr) 0 0 0 (xs 1) (by omega) (by omega) (lt_or_0 _)) (cwV 1 hts (gd_law (in_V kw_1612 kw_1613 kw_1614 kw_181 kc_X11_change)) rfl rfl rfl (by decide +kernel) ⟨Nat.le_of_ble_eq_true rfl, Nat.le_of_ble_eq_true rfl⟩) ⟨fun a U g mk q => by obtain ⟨q0, q1, qP, qK, qD⟩ := q; exact ⟨q0, q1, qP, va_K.moved (u := U) (U := U.calling g mk a) (Vm.Alike.refl U.vm) qK, qD⟩, va_recv hKc hPc (ci := 12) (q0 := 0) rfl rfl, fun U hU hW => ⟨rfl, by rw [hU], by rw [hU]; exact hPc, va_K.moved hW.alike hKc, hDc.weaken (fun _ _ _ _ => trivial)⟩⟩ rfl rfl hl.1 rfl (lv_room (Nat.le_of_ble_eq_true rfl)) dL_law_497 ⟨Nat.le_of_ble_eq_true rfl, Nat.le_of_ble_eq_true rfl⟩) hS (fun q _ h => hFc q h) hFc (fun r_3 u t_ H1 locs ht hvm hw hB hz1 hk1 hS => ?_)
  obtain ⟨hP1, hK1, hD1⟩ := hB
  rw [ht] at hP1
  have hK1 := va_K.moved hvm.symm hK1
  obtain ⟨hP, hD⟩ := va_join (wr := [(mo, .inr (13, moF a (fun _ => 0) (-9223372036854775808))), (a 111, .inl (cI, 1300, .inl (fun _ => 0)))]) (w1 := [(x0, .inr (12, [.ref tp, .int 0, .ref sm, .ref tk, .int 0, .null, .null, .ref as, .ref bs, .ref cs, .ref ds, .int 0, .ref cr, .ref cy, .int 0, .ref tr])), (cy, .inl (cI, 8, .inl (fun _ => 0)))]) hP hD [0, 1] [2, 3] rfl rfl (by decide) (by decide) hk1 hFc hP1 hD1
  have hK := (hK.sub (tys' := [(cS, .object "StreamQueries$Source"), (cO, .object "java/lang/Object")]) [4, 5] rfl).app hK1
  generalize H1 = H at hP hS ⊢
  have hP : va_P (dC, dI) vwCl [(mo, .inr (13, moF a (fun _ => 0) (-9223372036854775808))), (a 111, .inl (cI, 1300, .inl (fun _ => 0))), (x0, .inr (12, [.ref tp, .int 0, .ref sm, .ref tk, .int 0, .null, .null, .ref as, .ref bs, .ref cs, .ref ds, .int 0, .ref cr, .ref cy, .int 0, .ref tr])), (cy, .inl (cI, 8, .inl (fun _ => 0)))] H := hP
  have hD : va_D A [(mo, .inr (13, moF a (fun _ => 0) (-9223372036854775808))), (a 111, .inl (cI, 1300, .inl (fun _ => 0))), (x0, .inr (12, [.ref tp, .int 0, .ref sm, .ref tk, .int 0, .null, .null, .ref as, .ref bs, .ref cs, .ref ds, .int 0, .ref cr, .ref cy, .int 0, .ref tr])), (cy, .inl (cI, 8, .inl (fun _ => 0)))] := hD
  have hK : va_K (dC, dI) vwCl [(cS, .object "StreamQueries$Source"), (cO, .object "java/lang/Object"), (cB, .byte), (cI, .int), (cJ, .long), (cZ, .boolean)] s := hK
  have er_3 : r_3 = 0 := hw
  rw [er_3]
  refine lv_aload_n hx hb dL_law_500 rfl (lv_at hl 2 rfl) ?_
  refine lv_aload_n hx hb dL_law_501 rfl (lv_at hl 0 rfl) ?_
  refine lv_iload_n hx hb dL_law_502 rfl (lv_at hl 3 rfl) ?_
  refine lv_iconst (v := 1) hx hb dL_law_503 (by decide) ?_
  refine lv_iadd hx hb dL_law_504 ?_
  refine lv_topi (fun x_4 ex_4 => ?_)
  have ex_4 : x_4 = 1 := ex_4.trans (by decide)
  subst ex_4
  refine va_sld hx hb hX hbl hbA hS (i := 1) (vp_in_nI (n := 1) (N := 6) (by omega) (by omega)) dL_law_505 ?_
  refine lv_topi (fun x_5 ex_5 => ?_)
  have ex_5 : x_5 = xs 1 := ex_5.trans (congrArg xs (nI_clamp (n := 1) (by omega)))
  rw [ex_5]
  have hPc := hP.sub (ws' := [(mo, .inr (13, moF a (fun _ => 0) (-9223372036854775808))), (a 111, .inl (cI, 1300, .inl (fun _ => 0)))]) [0, 1] rfl
  have hDc := hD.sub (ws' := [(mo, .inr (13, moF a (fun _ => 0) (-9223372036854775808))), (a 111, .inl (cI, 1300, .inl (fun _ => 0)))]) [0, 1] (by decide) rfl
  have hKc := hK.sub (tys' := [(cB, .byte), (cI, .int), (cJ, .long), (cZ, .boolean)]) [2, 3, 4, 5] rfl
  have hFc := va_free (wc := [(mo, .inr (13, moF a (fun _ => 0) (-9223372036854775808))), (a 111, .inl (cI, 1300, .inl (fun _ => 0)))]) hD hS hA [0, 1] rfl
  refine va_calli (va_runV (As := [.int (xs 1)]) (rest := [.int 0]) ⟨hx, hb, hml, hown, hts⟩ (t_X12_change_o l dC dI H.size cB cI cJ cZ mo 0 a (fun _ => 0) (fun _ => 0) (-9223372036854775808) (xs 1) (by omega) (lt_or_0 _)) (cwV 1 hts (gd_law (in_V kw_2464 kw_2465 kw_2466 kw_191 kc_X12_change)) rfl rfl rfl (by decide +kernel) ⟨Nat.le_of_ble_eq_true rfl, Nat.le_of_ble_eq_true rfl⟩) ⟨fun a U g mk q => by obtain ⟨q0, q1, qP, qK, qD⟩ := q; exact ⟨q0, q1, qP, va_K.moved (u := U) (U := U.calling g mk a) (Vm.Alike.refl U.vm) qK, qD⟩, va_recv hKc hPc (ci := 13) (q0 := 0) rfl rfl, fun U hU hW => ⟨rfl, by rw [hU], by rw [hU]; exact hPc, va_K.moved hW.alike hKc, hDc.weaken (fun _ _ _ _ => trivial)⟩⟩ rfl rfl hl.1 rfl (lv_room (Nat.le_of_ble_eq_true rfl)) dL_law_506 ⟨Nat.le_of_ble_eq_true rfl, Nat.le_of_ble_eq_true rfl⟩) hS (fun q _ h => hFc q h) hFc (fun r_6 u t_ H1 locs ht hvm hw hB hz1 hk1 hS => ?_)
  obtain ⟨hP1, hK1, hD1⟩ := hB
  rw [ht] at hP1
  have hK1 := va_K.moved hvm.symm hK1
  obtain ⟨hP, hD⟩ := va_join (wr := [(x0, .inr (12, [.ref tp, .int 0, .ref sm, .ref tk, .int 0, .null, .null, .ref as, .ref bs, .ref cs, .ref ds, .int 0, .ref cr, .ref cy, .int 0, .ref tr])), (cy, .inl (cI, 8, .inl (fun _ => 0)))]) (w1 := [(mo, .inr (13, moF a (fun _ => 0) (-9223372036854775808))), (a 111, .inl (cI, 1300, .inl (fun _ => 0)))]) hP hD [0, 1] [2, 3] rfl rfl (by decide) (by decide) hk1 hFc hP1 hD1
  have hK := (hK.sub (tys' := [(cS, .object "StreamQueries$Source"), (cO, .object "java/lang/Object")]) [0, 1] rfl).app hK1
  generalize H1 = H at hP hS ⊢
  have hP : va_P (dC, dI) vwCl [(x0, .inr (12, [.ref tp, .int 0, .ref sm, .ref tk, .int 0, .null, .null, .ref as, .ref bs, .ref cs, .ref ds, .int 0, .ref cr, .ref cy, .int 0, .ref tr])), (cy, .inl (cI, 8, .inl (fun _ => 0))), (mo, .inr (13, moF a (fun _ => 0) (-9223372036854775808))), (a 111, .inl (cI, 1300, .inl (fun _ => 0)))] H := hP
  have hD : va_D A [(x0, .inr (12, [.ref tp, .int 0, .ref sm, .ref tk, .int 0, .null, .null, .ref as, .ref bs, .ref cs, .ref ds, .int 0, .ref cr, .ref cy, .int 0, .ref tr])), (cy, .inl (cI, 8, .inl (fun _ => 0))), (mo, .inr (13, moF a (fun _ => 0) (-9223372036854775808))), (a 111, .inl (cI, 1300, .inl (fun _ => 0)))] := hD
  have hK : va_K (dC, dI) vwCl [(cS, .object "StreamQueries$Source"), (cO, .object "java/lang/Object"), (cB, .byte), (cI, .int), (cJ, .long), (cZ, .boolean)] s := hK
  have er_6 : r_6 = 0 := hw
  rw [er_6]
  refine lv_icmp_eq (tgt := 750) hx hb dL_law_509 (by decide) (fun c_7 => ?_) (fun c_7 => ?_)
  · skip
    exact law_tail C0 hA hbA hAf (Nat.le_of_ble_eq_true rfl) (Nat.le_of_ble_eq_true rfl) hS (lv_sub hl [0, 1, 2, 3] rfl)
  · skip
    exact absurd c_7 (by decide)
set_option maxHeartbeats 4000000 in
set_option maxRecDepth 100000 in
theorem lc_12 {p : Program} {l : Launch} {e : Env} {s : State} {m : MethodId} {below : List Frame} {meth : Method} {c : Code} {dC : Nat → ClassId} {dI : Nat → Nat → Nat} {cB cI cJ cZ cS cO : ClassId} {b : Nat} {xs : Nat → Int32} {K V : Nat → Nat} {fz : Value} {A : Nat → Prop} {as as0 as1 as2 as3 bs bs0 bs1 bs2 bs3 cr cs cs0 cs1 cs2 cs3 cy ds ds0 ds1 ds2 ds3 mo sm sm0 sm1 sm2 sm3 sm4 sm5 tk tk0 tk1 tk2 tk3 tk4 tp tr tr0 tr1 tr10 tr2 tr3 tr4 tr5 tr6 tr7 tr8 tr9 x0 : Nat} {a : Nat → Nat} (C0 : lw_At p s m meth c b 6 xs) (hZ : zE K V fz A s) (hA : ∀ q : Nat, s.heap.size ≤ q → A q) (hbA : ¬ A b) (hAf : ∀ q : Nat, A q → s.heap.size ≤ q)  (hK : va_K (dC, dI) vwCl [(cB, .byte), (cI, .int), (cJ, .long), (cZ, .boolean), (cS, .object "StreamQueries$Source"), (cO, .object "java/lang/Object")] s) {H : Heap} {locs : List Loc} {ls : Array Slot} (hP : va_P (dC, dI) vwCl [(x0, .inr (12, [.ref tp, .int 0, .ref sm, .ref tk, .int 0, .null, .null, .ref as, .ref bs, .ref cs, .ref ds, .int 0, .ref cr, .ref cy, .int 0, .ref tr])), (mo, .inr (13, moF a (fun _ => 0) (-9223372036854775808))), (a 112, .inl (cJ, 10400, .inr (.inl (fun _ => 0))))] H) (hD : va_D A [(x0, .inr (12, [.ref tp, .int 0, .ref sm, .ref tk, .int 0, .null, .null, .ref as, .ref bs, .ref cs, .ref ds, .int 0, .ref cr, .ref cy, .int 0, .ref tr])), (mo, .inr (13, moF a (fun _ => 0) (-9223372036854775808))), (a 112, .inl (cJ, 10400, .inr (.inl (fun _ => 0))))]) (hS : va_S A s.heap H locs) (hl : lv_has ls 4 [(0, .ref b), (1, .ref x0), (2, .ref mo), (3, .int 0)]) : W p l e room_1 s m #[Value.ref b] below meth c H locs 127 886803 (lw_Z below #[Value.ref b] s) (F0 m 514 ls []) := by
  obtain ⟨hx, hb, hr, hml, hown, hts, hX, hbl, hlocks, hgv⟩ := id C0
  refine lv_aload_n hx hb dL_law_514 rfl (lv_at hl 1 rfl) ?_
  refine lv_aload_n hx hb dL_law_515 rfl (lv_at hl 0 rfl) ?_
  refine lv_iload_n hx hb dL_law_516 rfl (lv_at hl 3 rfl) ?_
  refine lv_iconst (v := 1) hx hb dL_law_517 (by decide) ?_
  refine lv_iadd hx hb dL_law_518 ?_
  refine lv_topi (fun x_1 ex_1 => ?_)
  have ex_1 : x_1 = 1 := ex_1.trans (by decide)
  subst ex_1
  refine va_sld hx hb hX hbl hbA hS (i := 1) (vp_in_nI (n := 1) (N := 6) (by omega) (by omega)) dL_law_519 ?_
  refine lv_topi (fun x_2 ex_2 => ?_)
  have ex_2 : x_2 = xs 1 := ex_2.trans (congrArg xs (nI_clamp (n := 1) (by omega)))
  rw [ex_2]
  refine lv_aload_n hx hb dL_law_520 rfl (lv_at hl 0 rfl) ?_
  refine lv_iload_n hx hb dL_law_521 rfl (lv_at hl 3 rfl) ?_
  refine lv_iconst (v := 2) hx hb dL_law_522 (by decide) ?_
  refine lv_iadd hx hb dL_law_523 ?_
  refine lv_topi (fun x_3 ex_3 => ?_)
  have ex_3 : x_3 = 2 := ex_3.trans (by decide)
  subst ex_3
  refine va_sld hx hb hX hbl hbA hS (i := 2) (vp_in_nI (n := 2) (N := 6) (by omega) (by omega)) dL_law_524 ?_
  refine lv_topi (fun x_4 ex_4 => ?_)
  have ex_4 : x_4 = xs 2 := ex_4.trans (congrArg xs (nI_clamp (n := 2) (by omega)))
  rw [ex_4]
  have hPc := hP.sub (ws' := [(x0, .inr (12, [.ref tp, .int 0, .ref sm, .ref tk, .int 0, .null, .null, .ref as, .ref bs, .ref cs, .ref ds, .int 0, .ref cr, .ref cy, .int 0, .ref tr]))]) [0] rfl
  have hDc := hD.sub (ws' := [(x0, .inr (12, [.ref tp, .int 0, .ref sm, .ref tk, .int 0, .null, .null, .ref as, .ref bs, .ref cs, .ref ds, .int 0, .ref cr, .ref cy, .int 0, .ref tr]))]) [0] (by decide) rfl
  have hKc := hK.sub (tys' := [(cB, .byte), (cI, .int), (cJ, .long), (cZ, .boolean)]) [0, 1, 2, 3] rfl
  have hFc := va_free (wc := [(x0, .inr (12, [.ref tp, .int 0, .ref sm, .ref tk, .int 0, .null, .null, .ref as, .ref bs, .ref cs, .ref ds, .int 0, .ref cr, .ref cy, .int 0, .ref tr]))]) hD hS hA [0] rfl
  refine va_calll (va_runV (As := [.int (xs 1), .int (xs 2)]) (rest := []) ⟨hx, hb, hml, hown, hts⟩ (t_X11_changed_0 l dC dI H.size cB cI cJ cZ x0 sm (.ref tp) (.ref tk) .null (.ref as) (.ref bs) (.ref cs) (.ref ds) (.ref cr) (.ref cy) (.ref tr) 0 0 0 0 (xs 1) (xs 2)) (cwV 2 hts (gd_law (in_V kw_1616 kw_1617 kw_1618 kw_181 kc_X11_changed)) rfl rfl rfl (by decide +kernel) ⟨Nat.le_of_ble_eq_true rfl, Nat.le_of_ble_eq_true rfl⟩) ⟨fun a U g mk q => by obtain ⟨q0, q1, qP, qK, qD⟩ := q; exact ⟨q0, q1, qP, va_K.moved (u := U) (U := U.calling g mk a) (Vm.Alike.refl U.vm) qK, qD⟩, va_recv hKc hPc (ci := 12) (q0 := 0) rfl rfl, fun U hU hW => ⟨rfl, by rw [hU], by rw [hU]; exact hPc, va_K.moved hW.alike hKc, hDc.weaken (fun _ _ _ _ => trivial)⟩⟩ rfl rfl hl.1 rfl (lv_room (Nat.le_of_ble_eq_true rfl)) dL_law_525 ⟨Nat.le_of_ble_eq_true rfl, Nat.le_of_ble_eq_true rfl⟩) hS (fun q _ h => hFc q h) hFc (fun r_5 u t_ H1 locs ht hvm hw hB hz1 hk1 hS => ?_)
  obtain ⟨hP1, hK1, hD1⟩ := hB
  rw [ht] at hP1
  have hK1 := va_K.moved hvm.symm hK1
  obtain ⟨hP, hD⟩ := va_join (wr := [(mo, .inr (13, moF a (fun _ => 0) (-9223372036854775808))), (a 112, .inl (cJ, 10400, .inr (.inl (fun _ => 0))))]) (w1 := [(x0, .inr (12, [.ref tp, .int 0, .ref sm, .ref tk, .int 0, .null, .null, .ref as, .ref bs, .ref cs, .ref ds, .int 0, .ref cr, .ref cy, .int 0, .ref tr]))]) hP hD [0] [1, 2] rfl rfl (by decide) (by decide) hk1 hFc hP1 hD1
  have hK := (hK.sub (tys' := [(cS, .object "StreamQueries$Source"), (cO, .object "java/lang/Object")]) [4, 5] rfl).app hK1
  generalize H1 = H at hP hS ⊢
  have hP : va_P (dC, dI) vwCl [(mo, .inr (13, moF a (fun _ => 0) (-9223372036854775808))), (a 112, .inl (cJ, 10400, .inr (.inl (fun _ => 0)))), (x0, .inr (12, [.ref tp, .int 0, .ref sm, .ref tk, .int 0, .null, .null, .ref as, .ref bs, .ref cs, .ref ds, .int 0, .ref cr, .ref cy, .int 0, .ref tr]))] H := hP
  have hD : va_D A [(mo, .inr (13, moF a (fun _ => 0) (-9223372036854775808))), (a 112, .inl (cJ, 10400, .inr (.inl (fun _ => 0)))), (x0, .inr (12, [.ref tp, .int 0, .ref sm, .ref tk, .int 0, .null, .null, .ref as, .ref bs, .ref cs, .ref ds, .int 0, .ref cr, .ref cy, .int 0, .ref tr]))] := hD
  have hK : va_K (dC, dI) vwCl [(cS, .object "StreamQueries$Source"), (cO, .object "java/lang/Object"), (cB, .byte), (cI, .int), (cJ, .long), (cZ, .boolean)] s := hK
  have er_5 : r_5 = (0 : Int64) := hw
  rw [er_5]
  refine lv_aload_n hx hb dL_law_528 rfl (lv_at hl 2 rfl) ?_
  refine lv_aload_n hx hb dL_law_529 rfl (lv_at hl 0 rfl) ?_
  refine lv_iload_n hx hb dL_law_530 rfl (lv_at hl 3 rfl) ?_
  refine lv_iconst (v := 1) hx hb dL_law_531 (by decide) ?_
  refine lv_iadd hx hb dL_law_532 ?_
  refine lv_topi (fun x_6 ex_6 => ?_)
  have ex_6 : x_6 = 1 := ex_6.trans (by decide)
  subst ex_6
  refine va_sld hx hb hX hbl hbA hS (i := 1) (vp_in_nI (n := 1) (N := 6) (by omega) (by omega)) dL_law_533 ?_
  refine lv_topi (fun x_7 ex_7 => ?_)
  have ex_7 : x_7 = xs 1 := ex_7.trans (congrArg xs (nI_clamp (n := 1) (by omega)))
  rw [ex_7]
  refine lv_aload_n hx hb dL_law_534 rfl (lv_at hl 0 rfl) ?_
  refine lv_iload_n hx hb dL_law_535 rfl (lv_at hl 3 rfl) ?_
  refine lv_iconst (v := 2) hx hb dL_law_536 (by decide) ?_
  refine lv_iadd hx hb dL_law_537 ?_
  refine lv_topi (fun x_8 ex_8 => ?_)
  have ex_8 : x_8 = 2 := ex_8.trans (by decide)
  subst ex_8
  refine va_sld hx hb hX hbl hbA hS (i := 2) (vp_in_nI (n := 2) (N := 6) (by omega) (by omega)) dL_law_538 ?_
  refine lv_topi (fun x_9 ex_9 => ?_)
  have ex_9 : x_9 = xs 2 := ex_9.trans (congrArg xs (nI_clamp (n := 2) (by omega)))
  rw [ex_9]
  have hPc := hP.sub (ws' := [(mo, .inr (13, moF a (fun _ => 0) (-9223372036854775808))), (a 112, .inl (cJ, 10400, .inr (.inl (fun _ => 0))))]) [0, 1] rfl
  have hDc := hD.sub (ws' := [(mo, .inr (13, moF a (fun _ => 0) (-9223372036854775808))), (a 112, .inl (cJ, 10400, .inr (.inl (fun _ => 0))))]) [0, 1] (by decide) rfl
  have hKc := hK.sub (tys' := [(cB, .byte), (cI, .int), (cJ, .long), (cZ, .boolean)]) [2, 3, 4, 5] rfl
  have hFc := va_free (wc := [(mo, .inr (13, moF a (fun _ => 0) (-9223372036854775808))), (a 112, .inl (cJ, 10400, .inr (.inl (fun _ => 0))))]) hD hS hA [0, 1] rfl
  refine va_calll (va_runV (As := [.int (xs 1), .int (xs 2)]) (rest := [.long (0 : Int64)]) ⟨hx, hb, hml, hown, hts⟩ (t_X12_changed_o l dC dI H.size cB cI cJ cZ mo a (fun _ => 0) (-9223372036854775808) 0 0 (fun _ => 0) (xs 1) (xs 2) (by omega) (by omega) ((lt_or_0 _).elim Or.inl (fun h => Or.inr (Or.inl h)))) (cwV 2 hts (gd_law (in_V kw_2468 kw_2469 kw_2470 kw_191 kc_X12_changed)) rfl rfl rfl (by decide +kernel) ⟨Nat.le_of_ble_eq_true rfl, Nat.le_of_ble_eq_true rfl⟩) ⟨fun a U g mk q => by obtain ⟨q0, q1, qP, qK, qD⟩ := q; exact ⟨q0, q1, qP, va_K.moved (u := U) (U := U.calling g mk a) (Vm.Alike.refl U.vm) qK, qD⟩, va_recv hKc hPc (ci := 13) (q0 := 0) rfl rfl, fun U hU hW => ⟨rfl, by rw [hU], by rw [hU]; exact hPc, va_K.moved hW.alike hKc, hDc.weaken (fun _ _ _ _ => trivial)⟩⟩ rfl rfl hl.1 rfl (lv_room (Nat.le_of_ble_eq_true rfl)) dL_law_539 ⟨Nat.le_of_ble_eq_true rfl, Nat.le_of_ble_eq_true rfl⟩) hS (fun q _ h => hFc q h) hFc (fun r_10 u t_ H1 locs ht hvm hw hB hz1 hk1 hS => ?_)
  obtain ⟨hP1, hK1, hD1⟩ := hB
  rw [ht] at hP1
  have hK1 := va_K.moved hvm.symm hK1
  obtain ⟨hP, hD⟩ := va_join (wr := [(x0, .inr (12, [.ref tp, .int 0, .ref sm, .ref tk, .int 0, .null, .null, .ref as, .ref bs, .ref cs, .ref ds, .int 0, .ref cr, .ref cy, .int 0, .ref tr]))]) (w1 := [(mo, .inr (13, moF a (fun _ => 0) (-9223372036854775808))), (a 112, .inl (cJ, 10400, .inr (.inl (fun _ => 0))))]) hP hD [0, 1] [2] rfl rfl (by decide) (by decide) hk1 hFc hP1 hD1
  have hK := (hK.sub (tys' := [(cS, .object "StreamQueries$Source"), (cO, .object "java/lang/Object")]) [0, 1] rfl).app hK1
  generalize H1 = H at hP hS ⊢
  have hP : va_P (dC, dI) vwCl [(x0, .inr (12, [.ref tp, .int 0, .ref sm, .ref tk, .int 0, .null, .null, .ref as, .ref bs, .ref cs, .ref ds, .int 0, .ref cr, .ref cy, .int 0, .ref tr])), (mo, .inr (13, moF a (fun _ => 0) (-9223372036854775808))), (a 112, .inl (cJ, 10400, .inr (.inl (fun _ => 0))))] H := hP
  have hD : va_D A [(x0, .inr (12, [.ref tp, .int 0, .ref sm, .ref tk, .int 0, .null, .null, .ref as, .ref bs, .ref cs, .ref ds, .int 0, .ref cr, .ref cy, .int 0, .ref tr])), (mo, .inr (13, moF a (fun _ => 0) (-9223372036854775808))), (a 112, .inl (cJ, 10400, .inr (.inl (fun _ => 0))))] := hD
  have hK : va_K (dC, dI) vwCl [(cS, .object "StreamQueries$Source"), (cO, .object "java/lang/Object"), (cB, .byte), (cI, .int), (cJ, .long), (cZ, .boolean)] s := hK
  have er_10 : r_10 = (0 : Int64) := hw
  rw [er_10]
  refine W.lcmp hx hb dL_law_542 ?_
  refine lv_if_eq (tgt := 750) hx hb dL_law_543 (by decide) (fun c_11 => ?_) (fun c_11 => ?_)
  · skip
    have c_11 : (0 : Int64) = (0 : Int64) := (lg_cmp_eq (0 : Int64) (0 : Int64)).mp c_11
    exact law_tail C0 hA hbA hAf (Nat.le_of_ble_eq_true rfl) (Nat.le_of_ble_eq_true rfl) hS (lv_sub hl [0, 1, 2, 3] rfl)
  · skip
    have c_11 : ¬ ((0 : Int64) = (0 : Int64)) := fun h => c_11 ((lg_cmp_eq (0 : Int64) (0 : Int64)).mpr h)
    exact absurd rfl c_11
set_option maxHeartbeats 4000000 in
set_option maxRecDepth 100000 in
theorem lc_13 {p : Program} {l : Launch} {e : Env} {s : State} {m : MethodId} {below : List Frame} {meth : Method} {c : Code} {dC : Nat → ClassId} {dI : Nat → Nat → Nat} {cB cI cJ cZ cS cO : ClassId} {b : Nat} {xs : Nat → Int32} {K V : Nat → Nat} {fz : Value} {A : Nat → Prop} {as as0 as1 as2 as3 bs bs0 bs1 bs2 bs3 cr cs cs0 cs1 cs2 cs3 cy ds ds0 ds1 ds2 ds3 mo sm sm0 sm1 sm2 sm3 sm4 sm5 tk tk0 tk1 tk2 tk3 tk4 tp tr tr0 tr1 tr10 tr2 tr3 tr4 tr5 tr6 tr7 tr8 tr9 x0 : Nat} {a : Nat → Nat} (C0 : lw_At p s m meth c b 6 xs) (hZ : zE K V fz A s) (hA : ∀ q : Nat, s.heap.size ≤ q → A q) (hbA : ¬ A b) (hAf : ∀ q : Nat, A q → s.heap.size ≤ q)  (hK : va_K (dC, dI) vwCl [(cB, .byte), (cI, .int), (cJ, .long), (cZ, .boolean), (cS, .object "StreamQueries$Source"), (cO, .object "java/lang/Object")] s) {H : Heap} {locs : List Loc} {ls : Array Slot} (hP : va_P (dC, dI) vwCl [(x0, .inr (12, [.ref tp, .int 0, .ref sm, .ref tk, .int 0, .null, .null, .ref as, .ref bs, .ref cs, .ref ds, .int 0, .ref cr, .ref cy, .int 0, .ref tr])), (mo, .inr (13, moF a (fun _ => 0) (-9223372036854775808))), (a 113, .inl (cZ, 10400, .inl (fun _ => 0)))] H) (hD : va_D A [(x0, .inr (12, [.ref tp, .int 0, .ref sm, .ref tk, .int 0, .null, .null, .ref as, .ref bs, .ref cs, .ref ds, .int 0, .ref cr, .ref cy, .int 0, .ref tr])), (mo, .inr (13, moF a (fun _ => 0) (-9223372036854775808))), (a 113, .inl (cZ, 10400, .inl (fun _ => 0)))]) (hS : va_S A s.heap H locs) (hl : lv_has ls 4 [(0, .ref b), (1, .ref x0), (2, .ref mo), (3, .int 0)]) : W p l e room_1 s m #[Value.ref b] below meth c H locs 127 886803 (lw_Z below #[Value.ref b] s) (F0 m 548 ls []) := by
  obtain ⟨hx, hb, hr, hml, hown, hts, hX, hbl, hlocks, hgv⟩ := id C0
  refine lv_aload_n hx hb dL_law_548 rfl (lv_at hl 1 rfl) ?_
  refine lv_aload_n hx hb dL_law_549 rfl (lv_at hl 0 rfl) ?_
  refine lv_iload_n hx hb dL_law_550 rfl (lv_at hl 3 rfl) ?_
  refine lv_iconst (v := 1) hx hb dL_law_551 (by decide) ?_
  refine lv_iadd hx hb dL_law_552 ?_
  refine lv_topi (fun x_1 ex_1 => ?_)
  have ex_1 : x_1 = 1 := ex_1.trans (by decide)
  subst ex_1
  refine va_sld hx hb hX hbl hbA hS (i := 1) (vp_in_nI (n := 1) (N := 6) (by omega) (by omega)) dL_law_553 ?_
  refine lv_topi (fun x_2 ex_2 => ?_)
  have ex_2 : x_2 = xs 1 := ex_2.trans (congrArg xs (nI_clamp (n := 1) (by omega)))
  rw [ex_2]
  refine lv_aload_n hx hb dL_law_554 rfl (lv_at hl 0 rfl) ?_
  refine lv_iload_n hx hb dL_law_555 rfl (lv_at hl 3 rfl) ?_
  refine lv_iconst (v := 2) hx hb dL_law_556 (by decide) ?_
  refine lv_iadd hx hb dL_law_557 ?_
  refine lv_topi (fun x_3 ex_3 => ?_)
  have ex_3 : x_3 = 2 := ex_3.trans (by decide)
  subst ex_3
  refine va_sld hx hb hX hbl hbA hS (i := 2) (vp_in_nI (n := 2) (N := 6) (by omega) (by omega)) dL_law_558 ?_
  refine lv_topi (fun x_4 ex_4 => ?_)
  have ex_4 : x_4 = xs 2 := ex_4.trans (congrArg xs (nI_clamp (n := 2) (by omega)))
  rw [ex_4]
  have hPc := hP.sub (ws' := [(x0, .inr (12, [.ref tp, .int 0, .ref sm, .ref tk, .int 0, .null, .null, .ref as, .ref bs, .ref cs, .ref ds, .int 0, .ref cr, .ref cy, .int 0, .ref tr]))]) [0] rfl
  have hDc := hD.sub (ws' := [(x0, .inr (12, [.ref tp, .int 0, .ref sm, .ref tk, .int 0, .null, .null, .ref as, .ref bs, .ref cs, .ref ds, .int 0, .ref cr, .ref cy, .int 0, .ref tr]))]) [0] (by decide) rfl
  have hKc := hK.sub (tys' := [(cB, .byte), (cI, .int), (cJ, .long), (cZ, .boolean)]) [0, 1, 2, 3] rfl
  have hFc := va_free (wc := [(x0, .inr (12, [.ref tp, .int 0, .ref sm, .ref tk, .int 0, .null, .null, .ref as, .ref bs, .ref cs, .ref ds, .int 0, .ref cr, .ref cy, .int 0, .ref tr]))]) hD hS hA [0] rfl
  refine va_calli (va_runV (As := [.int (xs 1), .int (xs 2)]) (rest := []) ⟨hx, hb, hml, hown, hts⟩ (t_X11_changedNull_0 l dC dI H.size cB cI cJ cZ x0 sm (.ref tp) (.ref tk) .null (.ref as) (.ref bs) (.ref cs) (.ref ds) (.ref cr) (.ref cy) (.ref tr) 0 0 0 0 (xs 1) (xs 2)) (cwV 2 hts (gd_law (in_V kw_1626 kw_1627 kw_1628 kw_181 kc_X11_changedNull)) rfl rfl rfl (by decide +kernel) ⟨Nat.le_of_ble_eq_true rfl, Nat.le_of_ble_eq_true rfl⟩) ⟨fun a U g mk q => by obtain ⟨q0, q1, qP, qK, qD⟩ := q; exact ⟨q0, q1, qP, va_K.moved (u := U) (U := U.calling g mk a) (Vm.Alike.refl U.vm) qK, qD⟩, va_recv hKc hPc (ci := 12) (q0 := 0) rfl rfl, fun U hU hW => ⟨rfl, by rw [hU], by rw [hU]; exact hPc, va_K.moved hW.alike hKc, hDc.weaken (fun _ _ _ _ => trivial)⟩⟩ rfl rfl hl.1 rfl (lv_room (Nat.le_of_ble_eq_true rfl)) dL_law_559 ⟨Nat.le_of_ble_eq_true rfl, Nat.le_of_ble_eq_true rfl⟩) hS (fun q _ h => hFc q h) hFc (fun r_5 u t_ H1 locs ht hvm hw hB hz1 hk1 hS => ?_)
  obtain ⟨hP1, hK1, hD1⟩ := hB
  rw [ht] at hP1
  have hK1 := va_K.moved hvm.symm hK1
  obtain ⟨hP, hD⟩ := va_join (wr := [(mo, .inr (13, moF a (fun _ => 0) (-9223372036854775808))), (a 113, .inl (cZ, 10400, .inl (fun _ => 0)))]) (w1 := [(x0, .inr (12, [.ref tp, .int 0, .ref sm, .ref tk, .int 0, .null, .null, .ref as, .ref bs, .ref cs, .ref ds, .int 0, .ref cr, .ref cy, .int 0, .ref tr]))]) hP hD [0] [1, 2] rfl rfl (by decide) (by decide) hk1 hFc hP1 hD1
  have hK := (hK.sub (tys' := [(cS, .object "StreamQueries$Source"), (cO, .object "java/lang/Object")]) [4, 5] rfl).app hK1
  generalize H1 = H at hP hS ⊢
  have hP : va_P (dC, dI) vwCl [(mo, .inr (13, moF a (fun _ => 0) (-9223372036854775808))), (a 113, .inl (cZ, 10400, .inl (fun _ => 0))), (x0, .inr (12, [.ref tp, .int 0, .ref sm, .ref tk, .int 0, .null, .null, .ref as, .ref bs, .ref cs, .ref ds, .int 0, .ref cr, .ref cy, .int 0, .ref tr]))] H := hP
  have hD : va_D A [(mo, .inr (13, moF a (fun _ => 0) (-9223372036854775808))), (a 113, .inl (cZ, 10400, .inl (fun _ => 0))), (x0, .inr (12, [.ref tp, .int 0, .ref sm, .ref tk, .int 0, .null, .null, .ref as, .ref bs, .ref cs, .ref ds, .int 0, .ref cr, .ref cy, .int 0, .ref tr]))] := hD
  have hK : va_K (dC, dI) vwCl [(cS, .object "StreamQueries$Source"), (cO, .object "java/lang/Object"), (cB, .byte), (cI, .int), (cJ, .long), (cZ, .boolean)] s := hK
  have er_5 : r_5 = 0 := hw
  rw [er_5]
  refine lv_aload_n hx hb dL_law_562 rfl (lv_at hl 2 rfl) ?_
  refine lv_aload_n hx hb dL_law_563 rfl (lv_at hl 0 rfl) ?_
  refine lv_iload_n hx hb dL_law_564 rfl (lv_at hl 3 rfl) ?_
  refine lv_iconst (v := 1) hx hb dL_law_565 (by decide) ?_
  refine lv_iadd hx hb dL_law_566 ?_
  refine lv_topi (fun x_6 ex_6 => ?_)
  have ex_6 : x_6 = 1 := ex_6.trans (by decide)
  subst ex_6
  refine va_sld hx hb hX hbl hbA hS (i := 1) (vp_in_nI (n := 1) (N := 6) (by omega) (by omega)) dL_law_567 ?_
  refine lv_topi (fun x_7 ex_7 => ?_)
  have ex_7 : x_7 = xs 1 := ex_7.trans (congrArg xs (nI_clamp (n := 1) (by omega)))
  rw [ex_7]
  refine lv_aload_n hx hb dL_law_568 rfl (lv_at hl 0 rfl) ?_
  refine lv_iload_n hx hb dL_law_569 rfl (lv_at hl 3 rfl) ?_
  refine lv_iconst (v := 2) hx hb dL_law_570 (by decide) ?_
  refine lv_iadd hx hb dL_law_571 ?_
  refine lv_topi (fun x_8 ex_8 => ?_)
  have ex_8 : x_8 = 2 := ex_8.trans (by decide)
  subst ex_8
  refine va_sld hx hb hX hbl hbA hS (i := 2) (vp_in_nI (n := 2) (N := 6) (by omega) (by omega)) dL_law_572 ?_
  refine lv_topi (fun x_9 ex_9 => ?_)
  have ex_9 : x_9 = xs 2 := ex_9.trans (congrArg xs (nI_clamp (n := 2) (by omega)))
  rw [ex_9]
  have hPc := hP.sub (ws' := [(mo, .inr (13, moF a (fun _ => 0) (-9223372036854775808))), (a 113, .inl (cZ, 10400, .inl (fun _ => 0)))]) [0, 1] rfl
  have hDc := hD.sub (ws' := [(mo, .inr (13, moF a (fun _ => 0) (-9223372036854775808))), (a 113, .inl (cZ, 10400, .inl (fun _ => 0)))]) [0, 1] (by decide) rfl
  have hKc := hK.sub (tys' := [(cB, .byte), (cI, .int), (cJ, .long), (cZ, .boolean)]) [2, 3, 4, 5] rfl
  have hFc := va_free (wc := [(mo, .inr (13, moF a (fun _ => 0) (-9223372036854775808))), (a 113, .inl (cZ, 10400, .inl (fun _ => 0)))]) hD hS hA [0, 1] rfl
  refine va_calli (va_runV (As := [.int (xs 1), .int (xs 2)]) (rest := [.int 0]) ⟨hx, hb, hml, hown, hts⟩ (t_X12_changedNull_o l dC dI H.size cB cI cJ cZ mo a (fun _ => 0) (-9223372036854775808) 0 0 (fun _ => 0) (xs 1) (xs 2) (by omega) (by omega) ((lt_or_0 _).elim Or.inl (fun h => Or.inr (Or.inl h)))) (cwV 2 hts (gd_law (in_V kw_2476 kw_2477 kw_2478 kw_191 kc_X12_changedNull)) rfl rfl rfl (by decide +kernel) ⟨Nat.le_of_ble_eq_true rfl, Nat.le_of_ble_eq_true rfl⟩) ⟨fun a U g mk q => by obtain ⟨q0, q1, qP, qK, qD⟩ := q; exact ⟨q0, q1, qP, va_K.moved (u := U) (U := U.calling g mk a) (Vm.Alike.refl U.vm) qK, qD⟩, va_recv hKc hPc (ci := 13) (q0 := 0) rfl rfl, fun U hU hW => ⟨rfl, by rw [hU], by rw [hU]; exact hPc, va_K.moved hW.alike hKc, hDc.weaken (fun _ _ _ _ => trivial)⟩⟩ rfl rfl hl.1 rfl (lv_room (Nat.le_of_ble_eq_true rfl)) dL_law_573 ⟨Nat.le_of_ble_eq_true rfl, Nat.le_of_ble_eq_true rfl⟩) hS (fun q _ h => hFc q h) hFc (fun r_10 u t_ H1 locs ht hvm hw hB hz1 hk1 hS => ?_)
  obtain ⟨hP1, hK1, hD1⟩ := hB
  rw [ht] at hP1
  have hK1 := va_K.moved hvm.symm hK1
  obtain ⟨hP, hD⟩ := va_join (wr := [(x0, .inr (12, [.ref tp, .int 0, .ref sm, .ref tk, .int 0, .null, .null, .ref as, .ref bs, .ref cs, .ref ds, .int 0, .ref cr, .ref cy, .int 0, .ref tr]))]) (w1 := [(mo, .inr (13, moF a (fun _ => 0) (-9223372036854775808))), (a 113, .inl (cZ, 10400, .inl (fun _ => 0)))]) hP hD [0, 1] [2] rfl rfl (by decide) (by decide) hk1 hFc hP1 hD1
  have hK := (hK.sub (tys' := [(cS, .object "StreamQueries$Source"), (cO, .object "java/lang/Object")]) [0, 1] rfl).app hK1
  generalize H1 = H at hP hS ⊢
  have hP : va_P (dC, dI) vwCl [(x0, .inr (12, [.ref tp, .int 0, .ref sm, .ref tk, .int 0, .null, .null, .ref as, .ref bs, .ref cs, .ref ds, .int 0, .ref cr, .ref cy, .int 0, .ref tr])), (mo, .inr (13, moF a (fun _ => 0) (-9223372036854775808))), (a 113, .inl (cZ, 10400, .inl (fun _ => 0)))] H := hP
  have hD : va_D A [(x0, .inr (12, [.ref tp, .int 0, .ref sm, .ref tk, .int 0, .null, .null, .ref as, .ref bs, .ref cs, .ref ds, .int 0, .ref cr, .ref cy, .int 0, .ref tr])), (mo, .inr (13, moF a (fun _ => 0) (-9223372036854775808))), (a 113, .inl (cZ, 10400, .inl (fun _ => 0)))] := hD
  have hK : va_K (dC, dI) vwCl [(cS, .object "StreamQueries$Source"), (cO, .object "java/lang/Object"), (cB, .byte), (cI, .int), (cJ, .long), (cZ, .boolean)] s := hK
  have er_10 : r_10 = 0 := hw
  rw [er_10]
  refine lv_icmp_eq (tgt := 750) hx hb dL_law_576 (by decide) (fun c_11 => ?_) (fun c_11 => ?_)
  · skip
    exact law_tail C0 hA hbA hAf (Nat.le_of_ble_eq_true rfl) (Nat.le_of_ble_eq_true rfl) hS (lv_sub hl [0, 1, 2, 3] rfl)
  · skip
    exact absurd c_11 (by decide)
set_option maxHeartbeats 4000000 in
set_option maxRecDepth 100000 in
theorem lc_14 {p : Program} {l : Launch} {e : Env} {s : State} {m : MethodId} {below : List Frame} {meth : Method} {c : Code} {dC : Nat → ClassId} {dI : Nat → Nat → Nat} {cB cI cJ cZ cS cO : ClassId} {b : Nat} {xs : Nat → Int32} {K V : Nat → Nat} {fz : Value} {A : Nat → Prop} {as as0 as1 as2 as3 bs bs0 bs1 bs2 bs3 cr cs cs0 cs1 cs2 cs3 cy ds ds0 ds1 ds2 ds3 mo sm sm0 sm1 sm2 sm3 sm4 sm5 tk tk0 tk1 tk2 tk3 tk4 tp tr tr0 tr1 tr10 tr2 tr3 tr4 tr5 tr6 tr7 tr8 tr9 x0 : Nat} {a : Nat → Nat} (C0 : lw_At p s m meth c b 6 xs) (hZ : zE K V fz A s) (hA : ∀ q : Nat, s.heap.size ≤ q → A q) (hbA : ¬ A b) (hAf : ∀ q : Nat, A q → s.heap.size ≤ q)  (hK : va_K (dC, dI) vwCl [(cB, .byte), (cI, .int), (cJ, .long), (cZ, .boolean), (cS, .object "StreamQueries$Source"), (cO, .object "java/lang/Object")] s) {H : Heap} {locs : List Loc} {ls : Array Slot} (hP : va_P (dC, dI) vwCl [(x0, .inr (12, [.ref tp, .int 0, .ref sm, .ref tk, .int 0, .null, .null, .ref as, .ref bs, .ref cs, .ref ds, .int 0, .ref cr, .ref cy, .int 0, .ref tr])), (mo, .inr (13, moF a (fun _ => 0) (-9223372036854775808)))] H) (hD : va_D A [(x0, .inr (12, [.ref tp, .int 0, .ref sm, .ref tk, .int 0, .null, .null, .ref as, .ref bs, .ref cs, .ref ds, .int 0, .ref cr, .ref cy, .int 0, .ref tr])), (mo, .inr (13, moF a (fun _ => 0) (-9223372036854775808)))]) (hS : va_S A s.heap H locs) (hl : lv_has ls 4 [(0, .ref b), (1, .ref x0), (2, .ref mo), (3, .int 0)]) : W p l e room_1 s m #[Value.ref b] below meth c H locs 127 886803 (lw_Z below #[Value.ref b] s) (F0 m 581 ls []) := by
  obtain ⟨hx, hb, hr, hml, hown, hts, hX, hbl, hlocks, hgv⟩ := id C0
  refine lv_aload_n hx hb dL_law_581 rfl (lv_at hl 1 rfl) ?_
  have hPc := hP.sub (ws' := [(x0, .inr (12, [.ref tp, .int 0, .ref sm, .ref tk, .int 0, .null, .null, .ref as, .ref bs, .ref cs, .ref ds, .int 0, .ref cr, .ref cy, .int 0, .ref tr]))]) [0] rfl
  have hDc := hD.sub (ws' := [(x0, .inr (12, [.ref tp, .int 0, .ref sm, .ref tk, .int 0, .null, .null, .ref as, .ref bs, .ref cs, .ref ds, .int 0, .ref cr, .ref cy, .int 0, .ref tr]))]) [0] (by decide) rfl
  have hKc := hK.sub (tys' := []) [] rfl
  have hFc := va_free (wc := [(x0, .inr (12, [.ref tp, .int 0, .ref sm, .ref tk, .int 0, .null, .null, .ref as, .ref bs, .ref cs, .ref ds, .int 0, .ref cr, .ref cy, .int 0, .ref tr]))]) hD hS hA [0] rfl
  refine va_calli (va_runV (As := []) (rest := []) ⟨hx, hb, hml, hown, hts⟩ (t_X11_rows l dC dI H.size x0 (.ref tp) (.ref sm) (.ref tk) .null .null (.ref as) (.ref bs) (.ref cs) (.ref ds) (.ref cr) (.ref cy) (.ref tr) 0 0 0 0) (cwV 0 hts (gd_law (in_V kw_1631 kw_1632 kw_1633 kw_181 kc_X11_rows)) rfl rfl rfl (by decide +kernel) ⟨Nat.le_of_ble_eq_true rfl, Nat.le_of_ble_eq_true rfl⟩) ⟨fun a U g mk q => by obtain ⟨q0, q1, qP, qK, qD⟩ := q; exact ⟨q0, q1, qP, va_K.moved (u := U) (U := U.calling g mk a) (Vm.Alike.refl U.vm) qK, qD⟩, va_recv hKc hPc (ci := 12) (q0 := 0) rfl rfl, fun U hU hW => ⟨rfl, by rw [hU], by rw [hU]; exact hPc, va_K.moved hW.alike hKc, hDc.weaken (fun _ _ _ _ => trivial)⟩⟩ rfl rfl hl.1 rfl (lv_room (Nat.le_of_ble_eq_true rfl)) dL_law_582 ⟨Nat.le_of_ble_eq_true rfl, Nat.le_of_ble_eq_true rfl⟩) hS (fun q _ h => hFc q h) hFc (fun r_1 u t_ H1 locs ht hvm hw hB hz1 hk1 hS => ?_)
  obtain ⟨hP1, hK1, hD1⟩ := hB
  rw [ht] at hP1
  have hK1 := va_K.moved hvm.symm hK1
  obtain ⟨hP, hD⟩ := va_join (wr := [(mo, .inr (13, moF a (fun _ => 0) (-9223372036854775808)))]) (w1 := [(x0, .inr (12, [.ref tp, .int 0, .ref sm, .ref tk, .int 0, .null, .null, .ref as, .ref bs, .ref cs, .ref ds, .int 0, .ref cr, .ref cy, .int 0, .ref tr]))]) hP hD [0] [1] rfl rfl (by decide) (by decide) hk1 hFc hP1 hD1
  have hK := (hK.sub (tys' := [(cB, .byte), (cI, .int), (cJ, .long), (cZ, .boolean), (cS, .object "StreamQueries$Source"), (cO, .object "java/lang/Object")]) [0, 1, 2, 3, 4, 5] rfl).app hK1
  generalize H1 = H at hP hS ⊢
  have hP : va_P (dC, dI) vwCl [(mo, .inr (13, moF a (fun _ => 0) (-9223372036854775808))), (x0, .inr (12, [.ref tp, .int 0, .ref sm, .ref tk, .int 0, .null, .null, .ref as, .ref bs, .ref cs, .ref ds, .int 0, .ref cr, .ref cy, .int 0, .ref tr]))] H := hP
  have hD : va_D A [(mo, .inr (13, moF a (fun _ => 0) (-9223372036854775808))), (x0, .inr (12, [.ref tp, .int 0, .ref sm, .ref tk, .int 0, .null, .null, .ref as, .ref bs, .ref cs, .ref ds, .int 0, .ref cr, .ref cy, .int 0, .ref tr]))] := hD
  have hK : va_K (dC, dI) vwCl [(cB, .byte), (cI, .int), (cJ, .long), (cZ, .boolean), (cS, .object "StreamQueries$Source"), (cO, .object "java/lang/Object")] s := hK
  have er_1 : r_1 = 0 := hw
  rw [er_1]
  refine lv_aload_n hx hb dL_law_585 rfl (lv_at hl 2 rfl) ?_
  have hPc := hP.sub (ws' := [(mo, .inr (13, moF a (fun _ => 0) (-9223372036854775808)))]) [0] rfl
  have hDc := hD.sub (ws' := [(mo, .inr (13, moF a (fun _ => 0) (-9223372036854775808)))]) [0] (by decide) rfl
  have hKc := hK.sub (tys' := [(cB, .byte), (cI, .int), (cJ, .long), (cZ, .boolean)]) [0, 1, 2, 3] rfl
  have hFc := va_free (wc := [(mo, .inr (13, moF a (fun _ => 0) (-9223372036854775808)))]) hD hS hA [0] rfl
  refine va_calli (va_runV (As := []) (rest := [.int 0]) ⟨hx, hb, hml, hown, hts⟩ (t_X12_rows_0 l dC dI H.size cB cI cJ cZ mo a (fun _ => 0) (-9223372036854775808) rfl) (cwV 0 hts (gd_law (in_V kw_2480 kw_2481 kw_2482 kw_191 kc_X12_rows)) rfl rfl rfl (by decide +kernel) ⟨Nat.le_of_ble_eq_true rfl, Nat.le_of_ble_eq_true rfl⟩) ⟨fun a U g mk q => by obtain ⟨q0, q1, qP, qK, qD⟩ := q; exact ⟨q0, q1, qP, va_K.moved (u := U) (U := U.calling g mk a) (Vm.Alike.refl U.vm) qK, qD⟩, va_recv hKc hPc (ci := 13) (q0 := 0) rfl rfl, fun U hU hW => ⟨rfl, by rw [hU], by rw [hU]; exact hPc, va_K.moved hW.alike hKc, hDc.weaken (fun _ _ _ _ => trivial)⟩⟩ rfl rfl hl.1 rfl (lv_room (Nat.le_of_ble_eq_true rfl)) dL_law_586 ⟨Nat.le_of_ble_eq_true rfl, Nat.le_of_ble_eq_true rfl⟩) hS (fun q _ h => hFc q h) hFc (fun r_2 u t_ H1 locs ht hvm hw hB hz1 hk1 hS => ?_)
  obtain ⟨hP1, hK1, hD1⟩ := hB
  rw [ht] at hP1
  have hK1 := va_K.moved hvm.symm hK1
  obtain ⟨hP, hD⟩ := va_join (wr := [(x0, .inr (12, [.ref tp, .int 0, .ref sm, .ref tk, .int 0, .null, .null, .ref as, .ref bs, .ref cs, .ref ds, .int 0, .ref cr, .ref cy, .int 0, .ref tr]))]) (w1 := [(mo, .inr (13, moF a (fun _ => 0) (-9223372036854775808)))]) hP hD [0] [1] rfl rfl (by decide) (by decide) hk1 hFc hP1 hD1
  have hK := (hK.sub (tys' := [(cS, .object "StreamQueries$Source"), (cO, .object "java/lang/Object")]) [4, 5] rfl).app hK1
  generalize H1 = H at hP hS ⊢
  have hP : va_P (dC, dI) vwCl [(x0, .inr (12, [.ref tp, .int 0, .ref sm, .ref tk, .int 0, .null, .null, .ref as, .ref bs, .ref cs, .ref ds, .int 0, .ref cr, .ref cy, .int 0, .ref tr])), (mo, .inr (13, moF a (fun _ => 0) (-9223372036854775808)))] H := hP
  have hD : va_D A [(x0, .inr (12, [.ref tp, .int 0, .ref sm, .ref tk, .int 0, .null, .null, .ref as, .ref bs, .ref cs, .ref ds, .int 0, .ref cr, .ref cy, .int 0, .ref tr])), (mo, .inr (13, moF a (fun _ => 0) (-9223372036854775808)))] := hD
  have hK : va_K (dC, dI) vwCl [(cS, .object "StreamQueries$Source"), (cO, .object "java/lang/Object"), (cB, .byte), (cI, .int), (cJ, .long), (cZ, .boolean)] s := hK
  have er_2 : r_2 = 0 := hw
  rw [er_2]
  refine lv_icmp_eq (tgt := 750) hx hb dL_law_589 (by decide) (fun c_3 => ?_) (fun c_3 => ?_)
  · skip
    exact law_tail C0 hA hbA hAf (Nat.le_of_ble_eq_true rfl) (Nat.le_of_ble_eq_true rfl) hS (lv_sub hl [0, 1, 2, 3] rfl)
  · skip
    exact absurd c_3 (by decide)
set_option maxHeartbeats 4000000 in
set_option maxRecDepth 100000 in
theorem lc_15 {p : Program} {l : Launch} {e : Env} {s : State} {m : MethodId} {below : List Frame} {meth : Method} {c : Code} {dC : Nat → ClassId} {dI : Nat → Nat → Nat} {cB cI cJ cZ cS cO : ClassId} {b : Nat} {xs : Nat → Int32} {K V : Nat → Nat} {fz : Value} {A : Nat → Prop} {as as0 as1 as2 as3 bs bs0 bs1 bs2 bs3 cr cs cs0 cs1 cs2 cs3 cy ds ds0 ds1 ds2 ds3 mo sm sm0 sm1 sm2 sm3 sm4 sm5 tk tk0 tk1 tk2 tk3 tk4 tp tr tr0 tr1 tr10 tr2 tr3 tr4 tr5 tr6 tr7 tr8 tr9 x0 : Nat} {a : Nat → Nat} (C0 : lw_At p s m meth c b 6 xs) (hZ : zE K V fz A s) (hA : ∀ q : Nat, s.heap.size ≤ q → A q) (hbA : ¬ A b) (hAf : ∀ q : Nat, A q → s.heap.size ≤ q)  (hK : va_K (dC, dI) vwCl [(cB, .byte), (cI, .int), (cJ, .long), (cZ, .boolean), (cS, .object "StreamQueries$Source"), (cO, .object "java/lang/Object")] s) {H : Heap} {locs : List Loc} {ls : Array Slot} (hP : va_P (dC, dI) vwCl [(x0, .inr (12, [.ref tp, .int 0, .ref sm, .ref tk, .int 0, .null, .null, .ref as, .ref bs, .ref cs, .ref ds, .int 0, .ref cr, .ref cy, .int 0, .ref tr])), (mo, .inr (13, moF a (fun _ => 0) (-9223372036854775808)))] H) (hD : va_D A [(x0, .inr (12, [.ref tp, .int 0, .ref sm, .ref tk, .int 0, .null, .null, .ref as, .ref bs, .ref cs, .ref ds, .int 0, .ref cr, .ref cy, .int 0, .ref tr])), (mo, .inr (13, moF a (fun _ => 0) (-9223372036854775808)))]) (hS : va_S A s.heap H locs) (hl : lv_has ls 4 [(0, .ref b), (1, .ref x0), (2, .ref mo), (3, .int 0)]) : W p l e room_1 s m #[Value.ref b] below meth c H locs 127 886803 (lw_Z below #[Value.ref b] s) (F0 m 594 ls []) := by
  obtain ⟨hx, hb, hr, hml, hown, hts, hX, hbl, hlocks, hgv⟩ := id C0
  refine lv_aload_n hx hb dL_law_594 rfl (lv_at hl 1 rfl) ?_
  refine lv_aload_n hx hb dL_law_595 rfl (lv_at hl 0 rfl) ?_
  refine lv_iload_n hx hb dL_law_596 rfl (lv_at hl 3 rfl) ?_
  refine lv_iconst (v := 1) hx hb dL_law_597 (by decide) ?_
  refine lv_iadd hx hb dL_law_598 ?_
  refine lv_topi (fun x_1 ex_1 => ?_)
  have ex_1 : x_1 = 1 := ex_1.trans (by decide)
  subst ex_1
  refine va_sld hx hb hX hbl hbA hS (i := 1) (vp_in_nI (n := 1) (N := 6) (by omega) (by omega)) dL_law_599 ?_
  refine lv_topi (fun x_2 ex_2 => ?_)
  have ex_2 : x_2 = xs 1 := ex_2.trans (congrArg xs (nI_clamp (n := 1) (by omega)))
  rw [ex_2]
  refine lv_aload_n hx hb dL_law_600 rfl (lv_at hl 0 rfl) ?_
  refine lv_iload_n hx hb dL_law_601 rfl (lv_at hl 3 rfl) ?_
  refine lv_iconst (v := 2) hx hb dL_law_602 (by decide) ?_
  refine lv_iadd hx hb dL_law_603 ?_
  refine lv_topi (fun x_3 ex_3 => ?_)
  have ex_3 : x_3 = 2 := ex_3.trans (by decide)
  subst ex_3
  refine va_sld hx hb hX hbl hbA hS (i := 2) (vp_in_nI (n := 2) (N := 6) (by omega) (by omega)) dL_law_604 ?_
  refine lv_topi (fun x_4 ex_4 => ?_)
  have ex_4 : x_4 = xs 2 := ex_4.trans (congrArg xs (nI_clamp (n := 2) (by omega)))
  rw [ex_4]
  have hPc := hP.sub (ws' := [(x0, .inr (12, [.ref tp, .int 0, .ref sm, .ref tk, .int 0, .null, .null, .ref as, .ref bs, .ref cs, .ref ds, .int 0, .ref cr, .ref cy, .int 0, .ref tr]))]) [0] rfl
  have hDc := hD.sub (ws' := [(x0, .inr (12, [.ref tp, .int 0, .ref sm, .ref tk, .int 0, .null, .null, .ref as, .ref bs, .ref cs, .ref ds, .int 0, .ref cr, .ref cy, .int 0, .ref tr]))]) [0] (by decide) rfl
  have hKc := hK.sub (tys' := [(cB, .byte), (cI, .int), (cJ, .long), (cZ, .boolean)]) [0, 1, 2, 3] rfl
  have hFc := va_free (wc := [(x0, .inr (12, [.ref tp, .int 0, .ref sm, .ref tk, .int 0, .null, .null, .ref as, .ref bs, .ref cs, .ref ds, .int 0, .ref cr, .ref cy, .int 0, .ref tr]))]) hD hS hA [0] rfl
  refine va_calll (va_runV (As := [.int (xs 1), .int (xs 2)]) (rest := []) ⟨hx, hb, hml, hown, hts⟩ (t_X11_at_0 l dC dI H.size cB cI cJ cZ x0 sm (.ref tp) (.ref tk) .null (.ref as) (.ref bs) (.ref cs) (.ref ds) (.ref cr) (.ref cy) (.ref tr) 0 0 0 0 (xs 1) (xs 2)) (cwV 2 hts (gd_law (in_V kw_1635 kw_1636 kw_1637 kw_181 kc_X11_at)) rfl rfl rfl (by decide +kernel) ⟨Nat.le_of_ble_eq_true rfl, Nat.le_of_ble_eq_true rfl⟩) ⟨fun a U g mk q => by obtain ⟨q0, q1, qP, qK, qD⟩ := q; exact ⟨q0, q1, qP, va_K.moved (u := U) (U := U.calling g mk a) (Vm.Alike.refl U.vm) qK, qD⟩, va_recv hKc hPc (ci := 12) (q0 := 0) rfl rfl, fun U hU hW => ⟨rfl, by rw [hU], by rw [hU]; exact hPc, va_K.moved hW.alike hKc, hDc.weaken (fun _ _ _ _ => trivial)⟩⟩ rfl rfl hl.1 rfl (lv_room (Nat.le_of_ble_eq_true rfl)) dL_law_605 ⟨Nat.le_of_ble_eq_true rfl, Nat.le_of_ble_eq_true rfl⟩) hS (fun q _ h => hFc q h) hFc (fun r_5 u t_ H1 locs ht hvm hw hB hz1 hk1 hS => ?_)
  obtain ⟨hP1, hK1, hD1⟩ := hB
  rw [ht] at hP1
  have hK1 := va_K.moved hvm.symm hK1
  obtain ⟨hP, hD⟩ := va_join (wr := [(mo, .inr (13, moF a (fun _ => 0) (-9223372036854775808)))]) (w1 := [(x0, .inr (12, [.ref tp, .int 0, .ref sm, .ref tk, .int 0, .null, .null, .ref as, .ref bs, .ref cs, .ref ds, .int 0, .ref cr, .ref cy, .int 0, .ref tr]))]) hP hD [0] [1] rfl rfl (by decide) (by decide) hk1 hFc hP1 hD1
  have hK := (hK.sub (tys' := [(cS, .object "StreamQueries$Source"), (cO, .object "java/lang/Object")]) [4, 5] rfl).app hK1
  generalize H1 = H at hP hS ⊢
  have hP : va_P (dC, dI) vwCl [(mo, .inr (13, moF a (fun _ => 0) (-9223372036854775808))), (x0, .inr (12, [.ref tp, .int 0, .ref sm, .ref tk, .int 0, .null, .null, .ref as, .ref bs, .ref cs, .ref ds, .int 0, .ref cr, .ref cy, .int 0, .ref tr]))] H := hP
  have hD : va_D A [(mo, .inr (13, moF a (fun _ => 0) (-9223372036854775808))), (x0, .inr (12, [.ref tp, .int 0, .ref sm, .ref tk, .int 0, .null, .null, .ref as, .ref bs, .ref cs, .ref ds, .int 0, .ref cr, .ref cy, .int 0, .ref tr]))] := hD
  have hK : va_K (dC, dI) vwCl [(cS, .object "StreamQueries$Source"), (cO, .object "java/lang/Object"), (cB, .byte), (cI, .int), (cJ, .long), (cZ, .boolean)] s := hK
  have er_5 : r_5 = (0 : Int64) := hw
  rw [er_5]
  refine lv_aload_n hx hb dL_law_608 rfl (lv_at hl 2 rfl) ?_
  refine lv_aload_n hx hb dL_law_609 rfl (lv_at hl 0 rfl) ?_
  refine lv_iload_n hx hb dL_law_610 rfl (lv_at hl 3 rfl) ?_
  refine lv_iconst (v := 1) hx hb dL_law_611 (by decide) ?_
  refine lv_iadd hx hb dL_law_612 ?_
  refine lv_topi (fun x_6 ex_6 => ?_)
  have ex_6 : x_6 = 1 := ex_6.trans (by decide)
  subst ex_6
  refine va_sld hx hb hX hbl hbA hS (i := 1) (vp_in_nI (n := 1) (N := 6) (by omega) (by omega)) dL_law_613 ?_
  refine lv_topi (fun x_7 ex_7 => ?_)
  have ex_7 : x_7 = xs 1 := ex_7.trans (congrArg xs (nI_clamp (n := 1) (by omega)))
  rw [ex_7]
  refine lv_aload_n hx hb dL_law_614 rfl (lv_at hl 0 rfl) ?_
  refine lv_iload_n hx hb dL_law_615 rfl (lv_at hl 3 rfl) ?_
  refine lv_iconst (v := 2) hx hb dL_law_616 (by decide) ?_
  refine lv_iadd hx hb dL_law_617 ?_
  refine lv_topi (fun x_8 ex_8 => ?_)
  have ex_8 : x_8 = 2 := ex_8.trans (by decide)
  subst ex_8
  refine va_sld hx hb hX hbl hbA hS (i := 2) (vp_in_nI (n := 2) (N := 6) (by omega) (by omega)) dL_law_618 ?_
  refine lv_topi (fun x_9 ex_9 => ?_)
  have ex_9 : x_9 = xs 2 := ex_9.trans (congrArg xs (nI_clamp (n := 2) (by omega)))
  rw [ex_9]
  have hPc := hP.sub (ws' := [(mo, .inr (13, moF a (fun _ => 0) (-9223372036854775808)))]) [0] rfl
  have hDc := hD.sub (ws' := [(mo, .inr (13, moF a (fun _ => 0) (-9223372036854775808)))]) [0] (by decide) rfl
  have hKc := hK.sub (tys' := [(cB, .byte), (cI, .int), (cJ, .long), (cZ, .boolean)]) [2, 3, 4, 5] rfl
  have hFc := va_free (wc := [(mo, .inr (13, moF a (fun _ => 0) (-9223372036854775808)))]) hD hS hA [0] rfl
  refine va_calll (va_runV (As := [.int (xs 1), .int (xs 2)]) (rest := [.long (0 : Int64)]) ⟨hx, hb, hml, hown, hts⟩ (t_X12_at_0 l dC dI H.size cB cI cJ cZ mo a (fun _ => 0) (-9223372036854775808) 0 0 (xs 1) (xs 2) rfl) (cwV 2 hts (gd_law (in_V kw_2484 kw_2485 kw_2486 kw_191 kc_X12_at)) rfl rfl rfl (by decide +kernel) ⟨Nat.le_of_ble_eq_true rfl, Nat.le_of_ble_eq_true rfl⟩) ⟨fun a U g mk q => by obtain ⟨q0, q1, qP, qK, qD⟩ := q; exact ⟨q0, q1, qP, va_K.moved (u := U) (U := U.calling g mk a) (Vm.Alike.refl U.vm) qK, qD⟩, va_recv hKc hPc (ci := 13) (q0 := 0) rfl rfl, fun U hU hW => ⟨rfl, by rw [hU], by rw [hU]; exact hPc, va_K.moved hW.alike hKc, hDc.weaken (fun _ _ _ _ => trivial)⟩⟩ rfl rfl hl.1 rfl (lv_room (Nat.le_of_ble_eq_true rfl)) dL_law_619 ⟨Nat.le_of_ble_eq_true rfl, Nat.le_of_ble_eq_true rfl⟩) hS (fun q _ h => hFc q h) hFc (fun r_10 u t_ H1 locs ht hvm hw hB hz1 hk1 hS => ?_)
  obtain ⟨hP1, hK1, hD1⟩ := hB
  rw [ht] at hP1
  have hK1 := va_K.moved hvm.symm hK1
  obtain ⟨hP, hD⟩ := va_join (wr := [(x0, .inr (12, [.ref tp, .int 0, .ref sm, .ref tk, .int 0, .null, .null, .ref as, .ref bs, .ref cs, .ref ds, .int 0, .ref cr, .ref cy, .int 0, .ref tr]))]) (w1 := [(mo, .inr (13, moF a (fun _ => 0) (-9223372036854775808)))]) hP hD [0] [1] rfl rfl (by decide) (by decide) hk1 hFc hP1 hD1
  have hK := (hK.sub (tys' := [(cS, .object "StreamQueries$Source"), (cO, .object "java/lang/Object")]) [0, 1] rfl).app hK1
  generalize H1 = H at hP hS ⊢
  have hP : va_P (dC, dI) vwCl [(x0, .inr (12, [.ref tp, .int 0, .ref sm, .ref tk, .int 0, .null, .null, .ref as, .ref bs, .ref cs, .ref ds, .int 0, .ref cr, .ref cy, .int 0, .ref tr])), (mo, .inr (13, moF a (fun _ => 0) (-9223372036854775808)))] H := hP
  have hD : va_D A [(x0, .inr (12, [.ref tp, .int 0, .ref sm, .ref tk, .int 0, .null, .null, .ref as, .ref bs, .ref cs, .ref ds, .int 0, .ref cr, .ref cy, .int 0, .ref tr])), (mo, .inr (13, moF a (fun _ => 0) (-9223372036854775808)))] := hD
  have hK : va_K (dC, dI) vwCl [(cS, .object "StreamQueries$Source"), (cO, .object "java/lang/Object"), (cB, .byte), (cI, .int), (cJ, .long), (cZ, .boolean)] s := hK
  have er_10 : r_10 = (0 : Int64) := hw
  rw [er_10]
  refine W.lcmp hx hb dL_law_622 ?_
  refine lv_if_eq (tgt := 750) hx hb dL_law_623 (by decide) (fun c_11 => ?_) (fun c_11 => ?_)
  · skip
    have c_11 : (0 : Int64) = (0 : Int64) := (lg_cmp_eq (0 : Int64) (0 : Int64)).mp c_11
    exact law_tail C0 hA hbA hAf (Nat.le_of_ble_eq_true rfl) (Nat.le_of_ble_eq_true rfl) hS (lv_sub hl [0, 1, 2, 3] rfl)
  · skip
    have c_11 : ¬ ((0 : Int64) = (0 : Int64)) := fun h => c_11 ((lg_cmp_eq (0 : Int64) (0 : Int64)).mpr h)
    exact absurd rfl c_11
set_option maxHeartbeats 4000000 in
set_option maxRecDepth 100000 in
theorem lc_16 {p : Program} {l : Launch} {e : Env} {s : State} {m : MethodId} {below : List Frame} {meth : Method} {c : Code} {dC : Nat → ClassId} {dI : Nat → Nat → Nat} {cB cI cJ cZ cS cO : ClassId} {b : Nat} {xs : Nat → Int32} {K V : Nat → Nat} {fz : Value} {A : Nat → Prop} {as as0 as1 as2 as3 bs bs0 bs1 bs2 bs3 cr cs cs0 cs1 cs2 cs3 cy ds ds0 ds1 ds2 ds3 mo sm sm0 sm1 sm2 sm3 sm4 sm5 tk tk0 tk1 tk2 tk3 tk4 tp tr tr0 tr1 tr10 tr2 tr3 tr4 tr5 tr6 tr7 tr8 tr9 x0 : Nat} {a : Nat → Nat} (C0 : lw_At p s m meth c b 6 xs) (hZ : zE K V fz A s) (hA : ∀ q : Nat, s.heap.size ≤ q → A q) (hbA : ¬ A b) (hAf : ∀ q : Nat, A q → s.heap.size ≤ q)  (hK : va_K (dC, dI) vwCl [(cB, .byte), (cI, .int), (cJ, .long), (cZ, .boolean), (cS, .object "StreamQueries$Source"), (cO, .object "java/lang/Object")] s) {H : Heap} {locs : List Loc} {ls : Array Slot} (hP : va_P (dC, dI) vwCl [(x0, .inr (12, [.ref tp, .int 0, .ref sm, .ref tk, .int 0, .null, .null, .ref as, .ref bs, .ref cs, .ref ds, .int 0, .ref cr, .ref cy, .int 0, .ref tr])), (mo, .inr (13, moF a (fun _ => 0) (-9223372036854775808)))] H) (hD : va_D A [(x0, .inr (12, [.ref tp, .int 0, .ref sm, .ref tk, .int 0, .null, .null, .ref as, .ref bs, .ref cs, .ref ds, .int 0, .ref cr, .ref cy, .int 0, .ref tr])), (mo, .inr (13, moF a (fun _ => 0) (-9223372036854775808)))]) (hS : va_S A s.heap H locs) (hl : lv_has ls 4 [(0, .ref b), (1, .ref x0), (2, .ref mo), (3, .int 0)]) : W p l e room_1 s m #[Value.ref b] below meth c H locs 127 886803 (lw_Z below #[Value.ref b] s) (F0 m 628 ls []) := by
  obtain ⟨hx, hb, hr, hml, hown, hts, hX, hbl, hlocks, hgv⟩ := id C0
  refine lv_aload_n hx hb dL_law_628 rfl (lv_at hl 1 rfl) ?_
  refine lv_aload_n hx hb dL_law_629 rfl (lv_at hl 0 rfl) ?_
  refine lv_iload_n hx hb dL_law_630 rfl (lv_at hl 3 rfl) ?_
  refine lv_iconst (v := 1) hx hb dL_law_631 (by decide) ?_
  refine lv_iadd hx hb dL_law_632 ?_
  refine lv_topi (fun x_1 ex_1 => ?_)
  have ex_1 : x_1 = 1 := ex_1.trans (by decide)
  subst ex_1
  refine va_sld hx hb hX hbl hbA hS (i := 1) (vp_in_nI (n := 1) (N := 6) (by omega) (by omega)) dL_law_633 ?_
  refine lv_topi (fun x_2 ex_2 => ?_)
  have ex_2 : x_2 = xs 1 := ex_2.trans (congrArg xs (nI_clamp (n := 1) (by omega)))
  rw [ex_2]
  refine lv_aload_n hx hb dL_law_634 rfl (lv_at hl 0 rfl) ?_
  refine lv_iload_n hx hb dL_law_635 rfl (lv_at hl 3 rfl) ?_
  refine lv_iconst (v := 2) hx hb dL_law_636 (by decide) ?_
  refine lv_iadd hx hb dL_law_637 ?_
  refine lv_topi (fun x_3 ex_3 => ?_)
  have ex_3 : x_3 = 2 := ex_3.trans (by decide)
  subst ex_3
  refine va_sld hx hb hX hbl hbA hS (i := 2) (vp_in_nI (n := 2) (N := 6) (by omega) (by omega)) dL_law_638 ?_
  refine lv_topi (fun x_4 ex_4 => ?_)
  have ex_4 : x_4 = xs 2 := ex_4.trans (congrArg xs (nI_clamp (n := 2) (by omega)))
  rw [ex_4]
  have hPc := hP.sub (ws' := [(x0, .inr (12, [.ref tp, .int 0, .ref sm, .ref tk, .int 0, .null, .null, .ref as, .ref bs, .ref cs, .ref ds, .int 0, .ref cr, .ref cy, .int 0, .ref tr]))]) [0] rfl
  have hDc := hD.sub (ws' := [(x0, .inr (12, [.ref tp, .int 0, .ref sm, .ref tk, .int 0, .null, .null, .ref as, .ref bs, .ref cs, .ref ds, .int 0, .ref cr, .ref cy, .int 0, .ref tr]))]) [0] (by decide) rfl
  have hKc := hK.sub (tys' := [(cB, .byte), (cI, .int), (cJ, .long), (cZ, .boolean)]) [0, 1, 2, 3] rfl
  have hFc := va_free (wc := [(x0, .inr (12, [.ref tp, .int 0, .ref sm, .ref tk, .int 0, .null, .null, .ref as, .ref bs, .ref cs, .ref ds, .int 0, .ref cr, .ref cy, .int 0, .ref tr]))]) hD hS hA [0] rfl
  refine va_calli (va_runV (As := [.int (xs 1), .int (xs 2)]) (rest := []) ⟨hx, hb, hml, hown, hts⟩ (t_X11_isNull_0 l dC dI H.size cB cI cJ cZ x0 sm (.ref tp) (.ref tk) .null (.ref as) (.ref bs) (.ref cs) (.ref ds) (.ref cr) (.ref cy) (.ref tr) 0 0 0 0 (xs 1) (xs 2)) (cwV 2 hts (gd_law (in_V kw_1647 kw_1648 kw_1649 kw_181 kc_X11_isNull)) rfl rfl rfl (by decide +kernel) ⟨Nat.le_of_ble_eq_true rfl, Nat.le_of_ble_eq_true rfl⟩) ⟨fun a U g mk q => by obtain ⟨q0, q1, qP, qK, qD⟩ := q; exact ⟨q0, q1, qP, va_K.moved (u := U) (U := U.calling g mk a) (Vm.Alike.refl U.vm) qK, qD⟩, va_recv hKc hPc (ci := 12) (q0 := 0) rfl rfl, fun U hU hW => ⟨rfl, by rw [hU], by rw [hU]; exact hPc, va_K.moved hW.alike hKc, hDc.weaken (fun _ _ _ _ => trivial)⟩⟩ rfl rfl hl.1 rfl (lv_room (Nat.le_of_ble_eq_true rfl)) dL_law_639 ⟨Nat.le_of_ble_eq_true rfl, Nat.le_of_ble_eq_true rfl⟩) hS (fun q _ h => hFc q h) hFc (fun r_5 u t_ H1 locs ht hvm hw hB hz1 hk1 hS => ?_)
  obtain ⟨hP1, hK1, hD1⟩ := hB
  rw [ht] at hP1
  have hK1 := va_K.moved hvm.symm hK1
  obtain ⟨hP, hD⟩ := va_join (wr := [(mo, .inr (13, moF a (fun _ => 0) (-9223372036854775808)))]) (w1 := [(x0, .inr (12, [.ref tp, .int 0, .ref sm, .ref tk, .int 0, .null, .null, .ref as, .ref bs, .ref cs, .ref ds, .int 0, .ref cr, .ref cy, .int 0, .ref tr]))]) hP hD [0] [1] rfl rfl (by decide) (by decide) hk1 hFc hP1 hD1
  have hK := (hK.sub (tys' := [(cS, .object "StreamQueries$Source"), (cO, .object "java/lang/Object")]) [4, 5] rfl).app hK1
  generalize H1 = H at hP hS ⊢
  have hP : va_P (dC, dI) vwCl [(mo, .inr (13, moF a (fun _ => 0) (-9223372036854775808))), (x0, .inr (12, [.ref tp, .int 0, .ref sm, .ref tk, .int 0, .null, .null, .ref as, .ref bs, .ref cs, .ref ds, .int 0, .ref cr, .ref cy, .int 0, .ref tr]))] H := hP
  have hD : va_D A [(mo, .inr (13, moF a (fun _ => 0) (-9223372036854775808))), (x0, .inr (12, [.ref tp, .int 0, .ref sm, .ref tk, .int 0, .null, .null, .ref as, .ref bs, .ref cs, .ref ds, .int 0, .ref cr, .ref cy, .int 0, .ref tr]))] := hD
  have hK : va_K (dC, dI) vwCl [(cS, .object "StreamQueries$Source"), (cO, .object "java/lang/Object"), (cB, .byte), (cI, .int), (cJ, .long), (cZ, .boolean)] s := hK
  have er_5 : r_5 = 0 := hw
  rw [er_5]
  refine lv_aload_n hx hb dL_law_642 rfl (lv_at hl 2 rfl) ?_
  refine lv_aload_n hx hb dL_law_643 rfl (lv_at hl 0 rfl) ?_
  refine lv_iload_n hx hb dL_law_644 rfl (lv_at hl 3 rfl) ?_
  refine lv_iconst (v := 1) hx hb dL_law_645 (by decide) ?_
  refine lv_iadd hx hb dL_law_646 ?_
  refine lv_topi (fun x_6 ex_6 => ?_)
  have ex_6 : x_6 = 1 := ex_6.trans (by decide)
  subst ex_6
  refine va_sld hx hb hX hbl hbA hS (i := 1) (vp_in_nI (n := 1) (N := 6) (by omega) (by omega)) dL_law_647 ?_
  refine lv_topi (fun x_7 ex_7 => ?_)
  have ex_7 : x_7 = xs 1 := ex_7.trans (congrArg xs (nI_clamp (n := 1) (by omega)))
  rw [ex_7]
  refine lv_aload_n hx hb dL_law_648 rfl (lv_at hl 0 rfl) ?_
  refine lv_iload_n hx hb dL_law_649 rfl (lv_at hl 3 rfl) ?_
  refine lv_iconst (v := 2) hx hb dL_law_650 (by decide) ?_
  refine lv_iadd hx hb dL_law_651 ?_
  refine lv_topi (fun x_8 ex_8 => ?_)
  have ex_8 : x_8 = 2 := ex_8.trans (by decide)
  subst ex_8
  refine va_sld hx hb hX hbl hbA hS (i := 2) (vp_in_nI (n := 2) (N := 6) (by omega) (by omega)) dL_law_652 ?_
  refine lv_topi (fun x_9 ex_9 => ?_)
  have ex_9 : x_9 = xs 2 := ex_9.trans (congrArg xs (nI_clamp (n := 2) (by omega)))
  rw [ex_9]
  have hPc := hP.sub (ws' := [(mo, .inr (13, moF a (fun _ => 0) (-9223372036854775808)))]) [0] rfl
  have hDc := hD.sub (ws' := [(mo, .inr (13, moF a (fun _ => 0) (-9223372036854775808)))]) [0] (by decide) rfl
  have hKc := hK.sub (tys' := [(cB, .byte), (cI, .int), (cJ, .long), (cZ, .boolean)]) [2, 3, 4, 5] rfl
  have hFc := va_free (wc := [(mo, .inr (13, moF a (fun _ => 0) (-9223372036854775808)))]) hD hS hA [0] rfl
  refine va_calli (va_runV (As := [.int (xs 1), .int (xs 2)]) (rest := [.int 0]) ⟨hx, hb, hml, hown, hts⟩ (t_X12_isNull_0 l dC dI H.size cB cI cJ cZ mo a (fun _ => 0) (-9223372036854775808) 0 0 (xs 1) (xs 2) rfl) (cwV 2 hts (gd_law (in_V kw_2492 kw_2493 kw_2494 kw_191 kc_X12_isNull)) rfl rfl rfl (by decide +kernel) ⟨Nat.le_of_ble_eq_true rfl, Nat.le_of_ble_eq_true rfl⟩) ⟨fun a U g mk q => by obtain ⟨q0, q1, qP, qK, qD⟩ := q; exact ⟨q0, q1, qP, va_K.moved (u := U) (U := U.calling g mk a) (Vm.Alike.refl U.vm) qK, qD⟩, va_recv hKc hPc (ci := 13) (q0 := 0) rfl rfl, fun U hU hW => ⟨rfl, by rw [hU], by rw [hU]; exact hPc, va_K.moved hW.alike hKc, hDc.weaken (fun _ _ _ _ => trivial)⟩⟩ rfl rfl hl.1 rfl (lv_room (Nat.le_of_ble_eq_true rfl)) dL_law_653 ⟨Nat.le_of_ble_eq_true rfl, Nat.le_of_ble_eq_true rfl⟩) hS (fun q _ h => hFc q h) hFc (fun r_10 u t_ H1 locs ht hvm hw hB hz1 hk1 hS => ?_)
  obtain ⟨hP1, hK1, hD1⟩ := hB
  rw [ht] at hP1
  have hK1 := va_K.moved hvm.symm hK1
  obtain ⟨hP, hD⟩ := va_join (wr := [(x0, .inr (12, [.ref tp, .int 0, .ref sm, .ref tk, .int 0, .null, .null, .ref as, .ref bs, .ref cs, .ref ds, .int 0, .ref cr, .ref cy, .int 0, .ref tr]))]) (w1 := [(mo, .inr (13, moF a (fun _ => 0) (-9223372036854775808)))]) hP hD [0] [1] rfl rfl (by decide) (by decide) hk1 hFc hP1 hD1
  have hK := (hK.sub (tys' := [(cS, .object "StreamQueries$Source"), (cO, .object "java/lang/Object")]) [0, 1] rfl).app hK1
  generalize H1 = H at hP hS ⊢
  have hP : va_P (dC, dI) vwCl [(x0, .inr (12, [.ref tp, .int 0, .ref sm, .ref tk, .int 0, .null, .null, .ref as, .ref bs, .ref cs, .ref ds, .int 0, .ref cr, .ref cy, .int 0, .ref tr])), (mo, .inr (13, moF a (fun _ => 0) (-9223372036854775808)))] H := hP
  have hD : va_D A [(x0, .inr (12, [.ref tp, .int 0, .ref sm, .ref tk, .int 0, .null, .null, .ref as, .ref bs, .ref cs, .ref ds, .int 0, .ref cr, .ref cy, .int 0, .ref tr])), (mo, .inr (13, moF a (fun _ => 0) (-9223372036854775808)))] := hD
  have hK : va_K (dC, dI) vwCl [(cS, .object "StreamQueries$Source"), (cO, .object "java/lang/Object"), (cB, .byte), (cI, .int), (cJ, .long), (cZ, .boolean)] s := hK
  have er_10 : r_10 = 0 := hw
  rw [er_10]
  refine lv_icmp_eq (tgt := 750) hx hb dL_law_656 (by decide) (fun c_11 => ?_) (fun c_11 => ?_)
  · skip
    exact law_tail C0 hA hbA hAf (Nat.le_of_ble_eq_true rfl) (Nat.le_of_ble_eq_true rfl) hS (lv_sub hl [0, 1, 2, 3] rfl)
  · skip
    exact absurd c_11 (by decide)
set_option maxHeartbeats 4000000 in
set_option maxRecDepth 100000 in
theorem lc_17 {p : Program} {l : Launch} {e : Env} {s : State} {m : MethodId} {below : List Frame} {meth : Method} {c : Code} {dC : Nat → ClassId} {dI : Nat → Nat → Nat} {cB cI cJ cZ cS cO : ClassId} {b : Nat} {xs : Nat → Int32} {K V : Nat → Nat} {fz : Value} {A : Nat → Prop} {as as0 as1 as2 as3 bs bs0 bs1 bs2 bs3 cr cs cs0 cs1 cs2 cs3 cy ds ds0 ds1 ds2 ds3 mo sm sm0 sm1 sm2 sm3 sm4 sm5 tk tk0 tk1 tk2 tk3 tk4 tp tr tr0 tr1 tr10 tr2 tr3 tr4 tr5 tr6 tr7 tr8 tr9 x0 : Nat} {a : Nat → Nat} (C0 : lw_At p s m meth c b 6 xs) (hZ : zE K V fz A s) (hA : ∀ q : Nat, s.heap.size ≤ q → A q) (hbA : ¬ A b) (hAf : ∀ q : Nat, A q → s.heap.size ≤ q)  (hK : va_K (dC, dI) vwCl [(cB, .byte), (cI, .int), (cJ, .long), (cZ, .boolean), (cS, .object "StreamQueries$Source"), (cO, .object "java/lang/Object")] s) {H : Heap} {locs : List Loc} {ls : Array Slot} (hP : va_P (dC, dI) vwCl [(x0, .inr (12, [.ref tp, .int 0, .ref sm, .ref tk, .int 0, .null, .null, .ref as, .ref bs, .ref cs, .ref ds, .int 0, .ref cr, .ref cy, .int 0, .ref tr])), (mo, .inr (13, moF a (fun _ => 0) (-9223372036854775808)))] H) (hD : va_D A [(x0, .inr (12, [.ref tp, .int 0, .ref sm, .ref tk, .int 0, .null, .null, .ref as, .ref bs, .ref cs, .ref ds, .int 0, .ref cr, .ref cy, .int 0, .ref tr])), (mo, .inr (13, moF a (fun _ => 0) (-9223372036854775808)))]) (hS : va_S A s.heap H locs) (hl : lv_has ls 4 [(0, .ref b), (1, .ref x0), (2, .ref mo), (3, .int 0)]) : W p l e room_1 s m #[Value.ref b] below meth c H locs 127 886803 (lw_Z below #[Value.ref b] s) (F0 m 661 ls []) := by
  obtain ⟨hx, hb, hr, hml, hown, hts, hX, hbl, hlocks, hgv⟩ := id C0
  refine lv_aload_n hx hb dL_law_661 rfl (lv_at hl 1 rfl) ?_
  refine lv_aload_n hx hb dL_law_662 rfl (lv_at hl 0 rfl) ?_
  refine lv_iload_n hx hb dL_law_663 rfl (lv_at hl 3 rfl) ?_
  refine lv_iconst (v := 1) hx hb dL_law_664 (by decide) ?_
  refine lv_iadd hx hb dL_law_665 ?_
  refine lv_topi (fun x_1 ex_1 => ?_)
  have ex_1 : x_1 = 1 := ex_1.trans (by decide)
  subst ex_1
  refine va_sld hx hb hX hbl hbA hS (i := 1) (vp_in_nI (n := 1) (N := 6) (by omega) (by omega)) dL_law_666 ?_
  refine lv_topi (fun x_2 ex_2 => ?_)
  have ex_2 : x_2 = xs 1 := ex_2.trans (congrArg xs (nI_clamp (n := 1) (by omega)))
  rw [ex_2]
  have hPc := hP.sub (ws' := [(x0, .inr (12, [.ref tp, .int 0, .ref sm, .ref tk, .int 0, .null, .null, .ref as, .ref bs, .ref cs, .ref ds, .int 0, .ref cr, .ref cy, .int 0, .ref tr]))]) [0] rfl
  have hDc := hD.sub (ws' := [(x0, .inr (12, [.ref tp, .int 0, .ref sm, .ref tk, .int 0, .null, .null, .ref as, .ref bs, .ref cs, .ref ds, .int 0, .ref cr, .ref cy, .int 0, .ref tr]))]) [0] (by decide) rfl
  have hKc := hK.sub (tys' := [(cB, .byte), (cI, .int), (cJ, .long), (cZ, .boolean)]) [0, 1, 2, 3] rfl
  have hFc := va_free (wc := [(x0, .inr (12, [.ref tp, .int 0, .ref sm, .ref tk, .int 0, .null, .null, .ref as, .ref bs, .ref cs, .ref ds, .int 0, .ref cr, .ref cy, .int 0, .ref tr]))]) hD hS hA [0] rfl
  refine va_calli (va_runV (As := [.int (xs 1)]) (rest := []) ⟨hx, hb, hml, hown, hts⟩ (t_X11_type_0 l dC dI H.size cB cI cJ cZ x0 sm (.ref tp) (.ref tk) .null (.ref as) (.ref bs) (.ref cs) (.ref ds) (.ref cr) (.ref cy) (.ref tr) 0 0 0 0 (xs 1)) (cwV 1 hts (gd_law (in_V kw_1651 kw_1652 kw_1653 kw_181 kc_X11_type)) rfl rfl rfl (by decide +kernel) ⟨Nat.le_of_ble_eq_true rfl, Nat.le_of_ble_eq_true rfl⟩) ⟨fun a U g mk q => by obtain ⟨q0, q1, qP, qK, qD⟩ := q; exact ⟨q0, q1, qP, va_K.moved (u := U) (U := U.calling g mk a) (Vm.Alike.refl U.vm) qK, qD⟩, va_recv hKc hPc (ci := 12) (q0 := 0) rfl rfl, fun U hU hW => ⟨rfl, by rw [hU], by rw [hU]; exact hPc, va_K.moved hW.alike hKc, hDc.weaken (fun _ _ _ _ => trivial)⟩⟩ rfl rfl hl.1 rfl (lv_room (Nat.le_of_ble_eq_true rfl)) dL_law_667 ⟨Nat.le_of_ble_eq_true rfl, Nat.le_of_ble_eq_true rfl⟩) hS (fun q _ h => hFc q h) hFc (fun r_3 u t_ H1 locs ht hvm hw hB hz1 hk1 hS => ?_)
  obtain ⟨hP1, hK1, hD1⟩ := hB
  rw [ht] at hP1
  have hK1 := va_K.moved hvm.symm hK1
  obtain ⟨hP, hD⟩ := va_join (wr := [(mo, .inr (13, moF a (fun _ => 0) (-9223372036854775808)))]) (w1 := [(x0, .inr (12, [.ref tp, .int 0, .ref sm, .ref tk, .int 0, .null, .null, .ref as, .ref bs, .ref cs, .ref ds, .int 0, .ref cr, .ref cy, .int 0, .ref tr]))]) hP hD [0] [1] rfl rfl (by decide) (by decide) hk1 hFc hP1 hD1
  have hK := (hK.sub (tys' := [(cS, .object "StreamQueries$Source"), (cO, .object "java/lang/Object")]) [4, 5] rfl).app hK1
  generalize H1 = H at hP hS ⊢
  have hP : va_P (dC, dI) vwCl [(mo, .inr (13, moF a (fun _ => 0) (-9223372036854775808))), (x0, .inr (12, [.ref tp, .int 0, .ref sm, .ref tk, .int 0, .null, .null, .ref as, .ref bs, .ref cs, .ref ds, .int 0, .ref cr, .ref cy, .int 0, .ref tr]))] H := hP
  have hD : va_D A [(mo, .inr (13, moF a (fun _ => 0) (-9223372036854775808))), (x0, .inr (12, [.ref tp, .int 0, .ref sm, .ref tk, .int 0, .null, .null, .ref as, .ref bs, .ref cs, .ref ds, .int 0, .ref cr, .ref cy, .int 0, .ref tr]))] := hD
  have hK : va_K (dC, dI) vwCl [(cS, .object "StreamQueries$Source"), (cO, .object "java/lang/Object"), (cB, .byte), (cI, .int), (cJ, .long), (cZ, .boolean)] s := hK
  have er_3 : r_3 = 0 := hw
  rw [er_3]
  refine lv_aload_n hx hb dL_law_670 rfl (lv_at hl 2 rfl) ?_
  refine lv_aload_n hx hb dL_law_671 rfl (lv_at hl 0 rfl) ?_
  refine lv_iload_n hx hb dL_law_672 rfl (lv_at hl 3 rfl) ?_
  refine lv_iconst (v := 1) hx hb dL_law_673 (by decide) ?_
  refine lv_iadd hx hb dL_law_674 ?_
  refine lv_topi (fun x_4 ex_4 => ?_)
  have ex_4 : x_4 = 1 := ex_4.trans (by decide)
  subst ex_4
  refine va_sld hx hb hX hbl hbA hS (i := 1) (vp_in_nI (n := 1) (N := 6) (by omega) (by omega)) dL_law_675 ?_
  refine lv_topi (fun x_5 ex_5 => ?_)
  have ex_5 : x_5 = xs 1 := ex_5.trans (congrArg xs (nI_clamp (n := 1) (by omega)))
  rw [ex_5]
  have hPc := hP.sub (ws' := [(mo, .inr (13, moF a (fun _ => 0) (-9223372036854775808)))]) [0] rfl
  have hDc := hD.sub (ws' := [(mo, .inr (13, moF a (fun _ => 0) (-9223372036854775808)))]) [0] (by decide) rfl
  have hKc := hK.sub (tys' := [(cB, .byte), (cI, .int), (cJ, .long), (cZ, .boolean)]) [2, 3, 4, 5] rfl
  have hFc := va_free (wc := [(mo, .inr (13, moF a (fun _ => 0) (-9223372036854775808)))]) hD hS hA [0] rfl
  refine va_calli (va_runV (As := [.int (xs 1)]) (rest := [.int 0]) ⟨hx, hb, hml, hown, hts⟩ (t_X12_type_0 l dC dI H.size cB cI cJ cZ mo a (fun _ => 0) (-9223372036854775808) (xs 1) rfl) (cwV 1 hts (gd_law (in_V kw_2496 kw_2497 kw_2498 kw_191 kc_X12_type)) rfl rfl rfl (by decide +kernel) ⟨Nat.le_of_ble_eq_true rfl, Nat.le_of_ble_eq_true rfl⟩) ⟨fun a U g mk q => by obtain ⟨q0, q1, qP, qK, qD⟩ := q; exact ⟨q0, q1, qP, va_K.moved (u := U) (U := U.calling g mk a) (Vm.Alike.refl U.vm) qK, qD⟩, va_recv hKc hPc (ci := 13) (q0 := 0) rfl rfl, fun U hU hW => ⟨rfl, by rw [hU], by rw [hU]; exact hPc, va_K.moved hW.alike hKc, hDc.weaken (fun _ _ _ _ => trivial)⟩⟩ rfl rfl hl.1 rfl (lv_room (Nat.le_of_ble_eq_true rfl)) dL_law_676 ⟨Nat.le_of_ble_eq_true rfl, Nat.le_of_ble_eq_true rfl⟩) hS (fun q _ h => hFc q h) hFc (fun r_6 u t_ H1 locs ht hvm hw hB hz1 hk1 hS => ?_)
  obtain ⟨hP1, hK1, hD1⟩ := hB
  rw [ht] at hP1
  have hK1 := va_K.moved hvm.symm hK1
  obtain ⟨hP, hD⟩ := va_join (wr := [(x0, .inr (12, [.ref tp, .int 0, .ref sm, .ref tk, .int 0, .null, .null, .ref as, .ref bs, .ref cs, .ref ds, .int 0, .ref cr, .ref cy, .int 0, .ref tr]))]) (w1 := [(mo, .inr (13, moF a (fun _ => 0) (-9223372036854775808)))]) hP hD [0] [1] rfl rfl (by decide) (by decide) hk1 hFc hP1 hD1
  have hK := (hK.sub (tys' := [(cS, .object "StreamQueries$Source"), (cO, .object "java/lang/Object")]) [0, 1] rfl).app hK1
  generalize H1 = H at hP hS ⊢
  have hP : va_P (dC, dI) vwCl [(x0, .inr (12, [.ref tp, .int 0, .ref sm, .ref tk, .int 0, .null, .null, .ref as, .ref bs, .ref cs, .ref ds, .int 0, .ref cr, .ref cy, .int 0, .ref tr])), (mo, .inr (13, moF a (fun _ => 0) (-9223372036854775808)))] H := hP
  have hD : va_D A [(x0, .inr (12, [.ref tp, .int 0, .ref sm, .ref tk, .int 0, .null, .null, .ref as, .ref bs, .ref cs, .ref ds, .int 0, .ref cr, .ref cy, .int 0, .ref tr])), (mo, .inr (13, moF a (fun _ => 0) (-9223372036854775808)))] := hD
  have hK : va_K (dC, dI) vwCl [(cS, .object "StreamQueries$Source"), (cO, .object "java/lang/Object"), (cB, .byte), (cI, .int), (cJ, .long), (cZ, .boolean)] s := hK
  have er_6 : r_6 = 0 := hw
  rw [er_6]
  refine lv_icmp_eq (tgt := 750) hx hb dL_law_679 (by decide) (fun c_7 => ?_) (fun c_7 => ?_)
  · skip
    exact law_tail C0 hA hbA hAf (Nat.le_of_ble_eq_true rfl) (Nat.le_of_ble_eq_true rfl) hS (lv_sub hl [0, 1, 2, 3] rfl)
  · skip
    exact absurd c_7 (by decide)
set_option maxHeartbeats 4000000 in
set_option maxRecDepth 100000 in
theorem lc_18_0 {p : Program} {l : Launch} {e : Env} {s : State} {m : MethodId} {below : List Frame} {meth : Method} {c : Code} {dC : Nat → ClassId} {dI : Nat → Nat → Nat} {cB cI cJ cZ cS cO : ClassId} {b : Nat} {xs : Nat → Int32} {K V : Nat → Nat} {fz : Value} {A : Nat → Prop} {as as0 as1 as2 as3 bs bs0 bs1 bs2 bs3 cr cs cs0 cs1 cs2 cs3 cy ds ds0 ds1 ds2 ds3 mo sm sm0 sm1 sm2 sm3 sm4 sm5 tk tk0 tk1 tk2 tk3 tk4 tp tr tr0 tr1 tr10 tr2 tr3 tr4 tr5 tr6 tr7 tr8 tr9 x0 : Nat} {a : Nat → Nat} (C0 : lw_At p s m meth c b 6 xs) (hZ : zE K V fz A s) (hA : ∀ q : Nat, s.heap.size ≤ q → A q) (hbA : ¬ A b) (hAf : ∀ q : Nat, A q → s.heap.size ≤ q) (he_1 : xs 1 = 0) (hK : va_K (dC, dI) vwCl [(cB, .byte), (cI, .int), (cJ, .long), (cZ, .boolean), (cS, .object "StreamQueries$Source"), (cO, .object "java/lang/Object")] s) {H : Heap} {locs : List Loc} {ls : Array Slot} (hP : va_P (dC, dI) vwCl [(x0, .inr (12, [.ref tp, .int 0, .ref sm, .ref tk, .int 0, .null, .null, .ref as, .ref bs, .ref cs, .ref ds, .int 0, .ref cr, .ref cy, .int 0, .ref tr])), (tr, .inr (2, [.int 0, .ref tr0, .ref tr1, .ref tr2, .ref tr3, .ref tr4, .ref tr5, .ref tr6, .ref tr7, .ref tr8, .ref tr9, .ref tr10, .int 0])), (tr9, .inl (cJ, 2, .inr (.inl (fun _ => 0)))), (tr10, .inl (cB, 2, .inl (fun _ => 0))), (mo, .inr (13, moF a (fun _ => 0) (-9223372036854775808)))] H) (hD : va_D A [(x0, .inr (12, [.ref tp, .int 0, .ref sm, .ref tk, .int 0, .null, .null, .ref as, .ref bs, .ref cs, .ref ds, .int 0, .ref cr, .ref cy, .int 0, .ref tr])), (tr, .inr (2, [.int 0, .ref tr0, .ref tr1, .ref tr2, .ref tr3, .ref tr4, .ref tr5, .ref tr6, .ref tr7, .ref tr8, .ref tr9, .ref tr10, .int 0])), (tr9, .inl (cJ, 2, .inr (.inl (fun _ => 0)))), (tr10, .inl (cB, 2, .inl (fun _ => 0))), (mo, .inr (13, moF a (fun _ => 0) (-9223372036854775808)))]) (hS : va_S A s.heap H locs) (hl : lv_has ls 4 [(0, .ref b), (1, .ref x0), (2, .ref mo), (3, .int 0)]) : W p l e room_1 s m #[Value.ref b] below meth c H locs 127 886803 (lw_Z below #[Value.ref b] s) (F0 m 684 ls []) := by
  obtain ⟨hx, hb, hr, hml, hown, hts, hX, hbl, hlocks, hgv⟩ := id C0
  refine lv_aload_n hx hb dL_law_684 rfl (lv_at hl 1 rfl) ?_
  refine lv_aload_n hx hb dL_law_685 rfl (lv_at hl 0 rfl) ?_
  refine lv_iload_n hx hb dL_law_686 rfl (lv_at hl 3 rfl) ?_
  refine lv_iconst (v := 1) hx hb dL_law_687 (by decide) ?_
  refine lv_iadd hx hb dL_law_688 ?_
  refine lv_topi (fun x_1 ex_1 => ?_)
  have ex_1 : x_1 = 1 := ex_1.trans (by decide)
  subst ex_1
  refine va_sld hx hb hX hbl hbA hS (i := 1) (vp_in_nI (n := 1) (N := 6) (by omega) (by omega)) dL_law_689 ?_
  refine lv_topi (fun x_2 ex_2 => ?_)
  have ex_2 : x_2 = xs 1 := ex_2.trans (congrArg xs (nI_clamp (n := 1) (by omega)))
  have ex_2 : x_2 = 0 := ex_2.trans he_1
  rw [ex_2]
  refine lv_aload_n hx hb dL_law_690 rfl (lv_at hl 0 rfl) ?_
  refine lv_iload_n hx hb dL_law_691 rfl (lv_at hl 3 rfl) ?_
  refine lv_iconst (v := 2) hx hb dL_law_692 (by decide) ?_
  refine lv_iadd hx hb dL_law_693 ?_
  refine lv_topi (fun x_3 ex_3 => ?_)
  have ex_3 : x_3 = 2 := ex_3.trans (by decide)
  subst ex_3
  refine va_sld hx hb hX hbl hbA hS (i := 2) (vp_in_nI (n := 2) (N := 6) (by omega) (by omega)) dL_law_694 ?_
  refine lv_topi (fun x_4 ex_4 => ?_)
  have ex_4 : x_4 = xs 2 := ex_4.trans (congrArg xs (nI_clamp (n := 2) (by omega)))
  rw [ex_4]
  refine lv_aload_n hx hb dL_law_695 rfl (lv_at hl 0 rfl) ?_
  refine lv_iload_n hx hb dL_law_696 rfl (lv_at hl 3 rfl) ?_
  refine lv_iconst (v := 3) hx hb dL_law_697 (by decide) ?_
  refine lv_iadd hx hb dL_law_698 ?_
  refine lv_topi (fun x_5 ex_5 => ?_)
  have ex_5 : x_5 = 3 := ex_5.trans (by decide)
  subst ex_5
  refine va_sld hx hb hX hbl hbA hS (i := 3) (vp_in_nI (n := 3) (N := 6) (by omega) (by omega)) dL_law_699 ?_
  refine lv_topi (fun x_6 ex_6 => ?_)
  have ex_6 : x_6 = xs 3 := ex_6.trans (congrArg xs (nI_clamp (n := 3) (by omega)))
  rw [ex_6]
  have hPc := hP.sub (ws' := [(x0, .inr (12, [.ref tp, .int 0, .ref sm, .ref tk, .int 0, .null, .null, .ref as, .ref bs, .ref cs, .ref ds, .int 0, .ref cr, .ref cy, .int 0, .ref tr])), (tr, .inr (2, [.int 0, .ref tr0, .ref tr1, .ref tr2, .ref tr3, .ref tr4, .ref tr5, .ref tr6, .ref tr7, .ref tr8, .ref tr9, .ref tr10, .int 0])), (tr9, .inl (cJ, 2, .inr (.inl (fun _ => 0)))), (tr10, .inl (cB, 2, .inl (fun _ => 0)))]) [0, 1, 2, 3] rfl
  have hDc := hD.sub (ws' := [(x0, .inr (12, [.ref tp, .int 0, .ref sm, .ref tk, .int 0, .null, .null, .ref as, .ref bs, .ref cs, .ref ds, .int 0, .ref cr, .ref cy, .int 0, .ref tr])), (tr, .inr (2, [.int 0, .ref tr0, .ref tr1, .ref tr2, .ref tr3, .ref tr4, .ref tr5, .ref tr6, .ref tr7, .ref tr8, .ref tr9, .ref tr10, .int 0])), (tr9, .inl (cJ, 2, .inr (.inl (fun _ => 0)))), (tr10, .inl (cB, 2, .inl (fun _ => 0)))]) [0, 1, 2, 3] (by decide) rfl
  have hKc := hK.sub (tys' := [(cB, .byte), (cI, .int), (cJ, .long), (cZ, .boolean)]) [0, 1, 2, 3] rfl
  have hFc := va_free (wc := [(x0, .inr (12, [.ref tp, .int 0, .ref sm, .ref tk, .int 0, .null, .null, .ref as, .ref bs, .ref cs, .ref ds, .int 0, .ref cr, .ref cy, .int 0, .ref tr])), (tr, .inr (2, [.int 0, .ref tr0, .ref tr1, .ref tr2, .ref tr3, .ref tr4, .ref tr5, .ref tr6, .ref tr7, .ref tr8, .ref tr9, .ref tr10, .int 0])), (tr9, .inl (cJ, 2, .inr (.inl (fun _ => 0)))), (tr10, .inl (cB, 2, .inl (fun _ => 0)))]) hD hS hA [0, 1, 2, 3] rfl
  refine va_calli (va_runV (As := [.int 0, .int (xs 2), .int (xs 3)]) (rest := []) ⟨hx, hb, hml, hown, hts⟩ (t_three_0 l dC dI H.size cB cI cJ cZ x0 tr tr9 tr10 0 (.ref tr0) (.ref tr1) (.ref tr2) (.ref tr3) (.ref tr4) (.ref tr5) (.ref tr6) (.ref tr7) (.ref tr8) (fun _ => 0) (fun _ => 0) 0 (.ref tp) (.ref sm) (.ref tk) .null .null (.ref as) (.ref bs) (.ref cs) (.ref ds) (.ref cr) (.ref cy) 0 0 0 0 (xs 2) (xs 3)) (cwV 3 hts (gd_law (in_V kw_1660 kw_1661 kw_1662 kw_181 kc_X11_three)) rfl rfl rfl (by decide +kernel) ⟨Nat.le_of_ble_eq_true rfl, Nat.le_of_ble_eq_true rfl⟩) ⟨fun a U g mk q => by obtain ⟨q0, q1, qP, qK, qD⟩ := q; exact ⟨q0, q1, qP, va_K.moved (u := U) (U := U.calling g mk a) (Vm.Alike.refl U.vm) qK, qD⟩, va_recv hKc hPc (ci := 12) (q0 := 0) rfl rfl, fun U hU hW => ⟨rfl, by rw [hU], by rw [hU]; exact hPc, va_K.moved hW.alike hKc, hDc.weaken (fun _ _ _ _ => trivial)⟩⟩ rfl rfl hl.1 rfl (lv_room (Nat.le_of_ble_eq_true rfl)) dL_law_700 ⟨Nat.le_of_ble_eq_true rfl, Nat.le_of_ble_eq_true rfl⟩) hS (fun q _ h => hFc q h) hFc (fun r_7 u t_ H1 locs ht hvm hw hB hz1 hk1 hS => ?_)
  obtain ⟨s2, b2⟩ := u
  obtain ⟨hP1, hK1, hD1⟩ := hB
  rw [ht] at hP1
  have hK1 := va_K.moved hvm.symm hK1
  obtain ⟨hP, hD⟩ := va_join (wr := [(mo, .inr (13, moF a (fun _ => 0) (-9223372036854775808)))]) (w1 := [(x0, .inr (12, [.ref tp, .int 0, .ref sm, .ref tk, .int 0, .null, .null, .ref as, .ref bs, .ref cs, .ref ds, .int 0, .ref cr, .ref cy, .int 0, .ref tr])), (tr, .inr (2, [.int 0, .ref tr0, .ref tr1, .ref tr2, .ref tr3, .ref tr4, .ref tr5, .ref tr6, .ref tr7, .ref tr8, .ref tr9, .ref tr10, .int (nI (0 + 1))])), (tr9, .inl (cJ, 2, .inr (.inl s2))), (tr10, .inl (cB, 2, .inl b2))]) hP hD [0, 1, 2, 3] [4] rfl rfl (by decide) (by decide) hk1 hFc hP1 hD1
  have hK := (hK.sub (tys' := [(cS, .object "StreamQueries$Source"), (cO, .object "java/lang/Object")]) [4, 5] rfl).app hK1
  generalize H1 = H at hP hS ⊢
  have hP : va_P (dC, dI) vwCl [(mo, .inr (13, moF a (fun _ => 0) (-9223372036854775808))), (x0, .inr (12, [.ref tp, .int 0, .ref sm, .ref tk, .int 0, .null, .null, .ref as, .ref bs, .ref cs, .ref ds, .int 0, .ref cr, .ref cy, .int 0, .ref tr])), (tr, .inr (2, [.int 0, .ref tr0, .ref tr1, .ref tr2, .ref tr3, .ref tr4, .ref tr5, .ref tr6, .ref tr7, .ref tr8, .ref tr9, .ref tr10, .int (nI (0 + 1))])), (tr9, .inl (cJ, 2, .inr (.inl s2))), (tr10, .inl (cB, 2, .inl b2))] H := hP
  have hD : va_D A [(mo, .inr (13, moF a (fun _ => 0) (-9223372036854775808))), (x0, .inr (12, [.ref tp, .int 0, .ref sm, .ref tk, .int 0, .null, .null, .ref as, .ref bs, .ref cs, .ref ds, .int 0, .ref cr, .ref cy, .int 0, .ref tr])), (tr, .inr (2, [.int 0, .ref tr0, .ref tr1, .ref tr2, .ref tr3, .ref tr4, .ref tr5, .ref tr6, .ref tr7, .ref tr8, .ref tr9, .ref tr10, .int (nI (0 + 1))])), (tr9, .inl (cJ, 2, .inr (.inl s2))), (tr10, .inl (cB, 2, .inl b2))] := hD
  have hK : va_K (dC, dI) vwCl [(cS, .object "StreamQueries$Source"), (cO, .object "java/lang/Object"), (cB, .byte), (cI, .int), (cJ, .long), (cZ, .boolean)] s := hK
  have er_7 : r_7 = thr 0 (xs 2) (xs 3) := hw
  rw [er_7]
  refine lv_aload_n hx hb dL_law_703 rfl (lv_at hl 2 rfl) ?_
  refine lv_aload_n hx hb dL_law_704 rfl (lv_at hl 0 rfl) ?_
  refine lv_iload_n hx hb dL_law_705 rfl (lv_at hl 3 rfl) ?_
  refine lv_iconst (v := 1) hx hb dL_law_706 (by decide) ?_
  refine lv_iadd hx hb dL_law_707 ?_
  refine lv_topi (fun x_8 ex_8 => ?_)
  have ex_8 : x_8 = 1 := ex_8.trans (by decide)
  subst ex_8
  refine va_sld hx hb hX hbl hbA hS (i := 1) (vp_in_nI (n := 1) (N := 6) (by omega) (by omega)) dL_law_708 ?_
  refine lv_topi (fun x_9 ex_9 => ?_)
  have ex_9 : x_9 = xs 1 := ex_9.trans (congrArg xs (nI_clamp (n := 1) (by omega)))
  have ex_9 : x_9 = 0 := ex_9.trans he_1
  rw [ex_9]
  refine lv_aload_n hx hb dL_law_709 rfl (lv_at hl 0 rfl) ?_
  refine lv_iload_n hx hb dL_law_710 rfl (lv_at hl 3 rfl) ?_
  refine lv_iconst (v := 2) hx hb dL_law_711 (by decide) ?_
  refine lv_iadd hx hb dL_law_712 ?_
  refine lv_topi (fun x_10 ex_10 => ?_)
  have ex_10 : x_10 = 2 := ex_10.trans (by decide)
  subst ex_10
  refine va_sld hx hb hX hbl hbA hS (i := 2) (vp_in_nI (n := 2) (N := 6) (by omega) (by omega)) dL_law_713 ?_
  refine lv_topi (fun x_11 ex_11 => ?_)
  have ex_11 : x_11 = xs 2 := ex_11.trans (congrArg xs (nI_clamp (n := 2) (by omega)))
  rw [ex_11]
  refine lv_aload_n hx hb dL_law_714 rfl (lv_at hl 0 rfl) ?_
  refine lv_iload_n hx hb dL_law_715 rfl (lv_at hl 3 rfl) ?_
  refine lv_iconst (v := 3) hx hb dL_law_716 (by decide) ?_
  refine lv_iadd hx hb dL_law_717 ?_
  refine lv_topi (fun x_12 ex_12 => ?_)
  have ex_12 : x_12 = 3 := ex_12.trans (by decide)
  subst ex_12
  refine va_sld hx hb hX hbl hbA hS (i := 3) (vp_in_nI (n := 3) (N := 6) (by omega) (by omega)) dL_law_718 ?_
  refine lv_topi (fun x_13 ex_13 => ?_)
  have ex_13 : x_13 = xs 3 := ex_13.trans (congrArg xs (nI_clamp (n := 3) (by omega)))
  rw [ex_13]
  have hPc := hP.sub (ws' := [(mo, .inr (13, moF a (fun _ => 0) (-9223372036854775808)))]) [0] rfl
  have hDc := hD.sub (ws' := [(mo, .inr (13, moF a (fun _ => 0) (-9223372036854775808)))]) [0] (by decide) rfl
  have hKc := hK.sub (tys' := [(cB, .byte), (cI, .int), (cJ, .long), (cZ, .boolean)]) [2, 3, 4, 5] rfl
  have hFc := va_free (wc := [(mo, .inr (13, moF a (fun _ => 0) (-9223372036854775808)))]) hD hS hA [0] rfl
  refine va_calli (va_runV (As := [.int 0, .int (xs 2), .int (xs 3)]) (rest := [.int (thr 0 (xs 2) (xs 3))]) ⟨hx, hb, hml, hown, hts⟩ (t_mthree_0 l dC dI H.size cB cI cJ cZ mo a (fun _ => 0) (-9223372036854775808) (xs 2) (xs 3)) (cwV 3 hts (gd_law (in_V kw_2500 kw_2501 kw_2502 kw_191 kc_X12_three)) rfl rfl rfl (by decide +kernel) ⟨Nat.le_of_ble_eq_true rfl, Nat.le_of_ble_eq_true rfl⟩) ⟨fun a U g mk q => by obtain ⟨q0, q1, qP, qK, qD⟩ := q; exact ⟨q0, q1, qP, va_K.moved (u := U) (U := U.calling g mk a) (Vm.Alike.refl U.vm) qK, qD⟩, va_recv hKc hPc (ci := 13) (q0 := 0) rfl rfl, fun U hU hW => ⟨rfl, by rw [hU], by rw [hU]; exact hPc, va_K.moved hW.alike hKc, hDc.weaken (fun _ _ _ _ => trivial)⟩⟩ rfl rfl hl.1 rfl (lv_room (Nat.le_of_ble_eq_true rfl)) dL_law_719 ⟨Nat.le_of_ble_eq_true rfl, Nat.le_of_ble_eq_true rfl⟩) hS (fun q _ h => hFc q h) hFc (fun r_14 u t_ H1 locs ht hvm hw hB hz1 hk1 hS => ?_)
  obtain ⟨hP1, hK1, hD1⟩ := hB
  rw [ht] at hP1
  have hK1 := va_K.moved hvm.symm hK1
  obtain ⟨hP, hD⟩ := va_join (wr := [(x0, .inr (12, [.ref tp, .int 0, .ref sm, .ref tk, .int 0, .null, .null, .ref as, .ref bs, .ref cs, .ref ds, .int 0, .ref cr, .ref cy, .int 0, .ref tr])), (tr, .inr (2, [.int 0, .ref tr0, .ref tr1, .ref tr2, .ref tr3, .ref tr4, .ref tr5, .ref tr6, .ref tr7, .ref tr8, .ref tr9, .ref tr10, .int (nI (0 + 1))])), (tr9, .inl (cJ, 2, .inr (.inl s2))), (tr10, .inl (cB, 2, .inl b2))]) (w1 := [(mo, .inr (13, moF a (fun _ => 0) (-9223372036854775808)))]) hP hD [0] [1, 2, 3, 4] rfl rfl (by decide) (by decide) hk1 hFc hP1 hD1
  have hK := (hK.sub (tys' := [(cS, .object "StreamQueries$Source"), (cO, .object "java/lang/Object")]) [0, 1] rfl).app hK1
  generalize H1 = H at hP hS ⊢
  have hP : va_P (dC, dI) vwCl [(x0, .inr (12, [.ref tp, .int 0, .ref sm, .ref tk, .int 0, .null, .null, .ref as, .ref bs, .ref cs, .ref ds, .int 0, .ref cr, .ref cy, .int 0, .ref tr])), (tr, .inr (2, [.int 0, .ref tr0, .ref tr1, .ref tr2, .ref tr3, .ref tr4, .ref tr5, .ref tr6, .ref tr7, .ref tr8, .ref tr9, .ref tr10, .int (nI (0 + 1))])), (tr9, .inl (cJ, 2, .inr (.inl s2))), (tr10, .inl (cB, 2, .inl b2)), (mo, .inr (13, moF a (fun _ => 0) (-9223372036854775808)))] H := hP
  have hD : va_D A [(x0, .inr (12, [.ref tp, .int 0, .ref sm, .ref tk, .int 0, .null, .null, .ref as, .ref bs, .ref cs, .ref ds, .int 0, .ref cr, .ref cy, .int 0, .ref tr])), (tr, .inr (2, [.int 0, .ref tr0, .ref tr1, .ref tr2, .ref tr3, .ref tr4, .ref tr5, .ref tr6, .ref tr7, .ref tr8, .ref tr9, .ref tr10, .int (nI (0 + 1))])), (tr9, .inl (cJ, 2, .inr (.inl s2))), (tr10, .inl (cB, 2, .inl b2)), (mo, .inr (13, moF a (fun _ => 0) (-9223372036854775808)))] := hD
  have hK : va_K (dC, dI) vwCl [(cS, .object "StreamQueries$Source"), (cO, .object "java/lang/Object"), (cB, .byte), (cI, .int), (cJ, .long), (cZ, .boolean)] s := hK
  have er_14 : r_14 = thr 0 (xs 2) (xs 3) := hw
  rw [er_14]
  refine lv_icmp_eq (tgt := 750) hx hb dL_law_722 (by decide) (fun c_15 => ?_) (fun c_15 => ?_)
  · skip
    exact law_tail C0 hA hbA hAf (Nat.le_of_ble_eq_true rfl) (Nat.le_of_ble_eq_true rfl) hS (lv_sub hl [0, 1, 2, 3] rfl)
  · skip
    exact absurd rfl c_15
set_option maxHeartbeats 4000000 in
set_option maxRecDepth 100000 in
theorem lc_18_1 {p : Program} {l : Launch} {e : Env} {s : State} {m : MethodId} {below : List Frame} {meth : Method} {c : Code} {dC : Nat → ClassId} {dI : Nat → Nat → Nat} {cB cI cJ cZ cS cO : ClassId} {b : Nat} {xs : Nat → Int32} {K V : Nat → Nat} {fz : Value} {A : Nat → Prop} {as as0 as1 as2 as3 bs bs0 bs1 bs2 bs3 cr cs cs0 cs1 cs2 cs3 cy ds ds0 ds1 ds2 ds3 mo sm sm0 sm1 sm2 sm3 sm4 sm5 tk tk0 tk1 tk2 tk3 tk4 tp tr tr0 tr1 tr10 tr2 tr3 tr4 tr5 tr6 tr7 tr8 tr9 x0 : Nat} {a : Nat → Nat} (C0 : lw_At p s m meth c b 6 xs) (hZ : zE K V fz A s) (hA : ∀ q : Nat, s.heap.size ≤ q → A q) (hbA : ¬ A b) (hAf : ∀ q : Nat, A q → s.heap.size ≤ q) (he_1 : xs 1 = 1) (hK : va_K (dC, dI) vwCl [(cB, .byte), (cI, .int), (cJ, .long), (cZ, .boolean), (cS, .object "StreamQueries$Source"), (cO, .object "java/lang/Object")] s) {H : Heap} {locs : List Loc} {ls : Array Slot} (hP : va_P (dC, dI) vwCl [(x0, .inr (12, [.ref tp, .int 0, .ref sm, .ref tk, .int 0, .null, .null, .ref as, .ref bs, .ref cs, .ref ds, .int 0, .ref cr, .ref cy, .int 0, .ref tr])), (tr, .inr (2, [.int 0, .ref tr0, .ref tr1, .ref tr2, .ref tr3, .ref tr4, .ref tr5, .ref tr6, .ref tr7, .ref tr8, .ref tr9, .ref tr10, .int 0])), (tr9, .inl (cJ, 2, .inr (.inl (fun _ => 0)))), (tr10, .inl (cB, 2, .inl (fun _ => 0))), (mo, .inr (13, moF a (fun _ => 0) (-9223372036854775808)))] H) (hD : va_D A [(x0, .inr (12, [.ref tp, .int 0, .ref sm, .ref tk, .int 0, .null, .null, .ref as, .ref bs, .ref cs, .ref ds, .int 0, .ref cr, .ref cy, .int 0, .ref tr])), (tr, .inr (2, [.int 0, .ref tr0, .ref tr1, .ref tr2, .ref tr3, .ref tr4, .ref tr5, .ref tr6, .ref tr7, .ref tr8, .ref tr9, .ref tr10, .int 0])), (tr9, .inl (cJ, 2, .inr (.inl (fun _ => 0)))), (tr10, .inl (cB, 2, .inl (fun _ => 0))), (mo, .inr (13, moF a (fun _ => 0) (-9223372036854775808)))]) (hS : va_S A s.heap H locs) (hl : lv_has ls 4 [(0, .ref b), (1, .ref x0), (2, .ref mo), (3, .int 0)]) : W p l e room_1 s m #[Value.ref b] below meth c H locs 127 886803 (lw_Z below #[Value.ref b] s) (F0 m 684 ls []) := by
  obtain ⟨hx, hb, hr, hml, hown, hts, hX, hbl, hlocks, hgv⟩ := id C0
  refine lv_aload_n hx hb dL_law_684 rfl (lv_at hl 1 rfl) ?_
  refine lv_aload_n hx hb dL_law_685 rfl (lv_at hl 0 rfl) ?_
  refine lv_iload_n hx hb dL_law_686 rfl (lv_at hl 3 rfl) ?_
  refine lv_iconst (v := 1) hx hb dL_law_687 (by decide) ?_
  refine lv_iadd hx hb dL_law_688 ?_
  refine lv_topi (fun x_1 ex_1 => ?_)
  have ex_1 : x_1 = 1 := ex_1.trans (by decide)
  subst ex_1
  refine va_sld hx hb hX hbl hbA hS (i := 1) (vp_in_nI (n := 1) (N := 6) (by omega) (by omega)) dL_law_689 ?_
  refine lv_topi (fun x_2 ex_2 => ?_)
  have ex_2 : x_2 = xs 1 := ex_2.trans (congrArg xs (nI_clamp (n := 1) (by omega)))
  have ex_2 : x_2 = 1 := ex_2.trans he_1
  rw [ex_2]
  refine lv_aload_n hx hb dL_law_690 rfl (lv_at hl 0 rfl) ?_
  refine lv_iload_n hx hb dL_law_691 rfl (lv_at hl 3 rfl) ?_
  refine lv_iconst (v := 2) hx hb dL_law_692 (by decide) ?_
  refine lv_iadd hx hb dL_law_693 ?_
  refine lv_topi (fun x_3 ex_3 => ?_)
  have ex_3 : x_3 = 2 := ex_3.trans (by decide)
  subst ex_3
  refine va_sld hx hb hX hbl hbA hS (i := 2) (vp_in_nI (n := 2) (N := 6) (by omega) (by omega)) dL_law_694 ?_
  refine lv_topi (fun x_4 ex_4 => ?_)
  have ex_4 : x_4 = xs 2 := ex_4.trans (congrArg xs (nI_clamp (n := 2) (by omega)))
  rw [ex_4]
  refine lv_aload_n hx hb dL_law_695 rfl (lv_at hl 0 rfl) ?_
  refine lv_iload_n hx hb dL_law_696 rfl (lv_at hl 3 rfl) ?_
  refine lv_iconst (v := 3) hx hb dL_law_697 (by decide) ?_
  refine lv_iadd hx hb dL_law_698 ?_
  refine lv_topi (fun x_5 ex_5 => ?_)
  have ex_5 : x_5 = 3 := ex_5.trans (by decide)
  subst ex_5
  refine va_sld hx hb hX hbl hbA hS (i := 3) (vp_in_nI (n := 3) (N := 6) (by omega) (by omega)) dL_law_699 ?_
  refine lv_topi (fun x_6 ex_6 => ?_)
  have ex_6 : x_6 = xs 3 := ex_6.trans (congrArg xs (nI_clamp (n := 3) (by omega)))
  rw [ex_6]
  have hPc := hP.sub (ws' := [(x0, .inr (12, [.ref tp, .int 0, .ref sm, .ref tk, .int 0, .null, .null, .ref as, .ref bs, .ref cs, .ref ds, .int 0, .ref cr, .ref cy, .int 0, .ref tr])), (tr, .inr (2, [.int 0, .ref tr0, .ref tr1, .ref tr2, .ref tr3, .ref tr4, .ref tr5, .ref tr6, .ref tr7, .ref tr8, .ref tr9, .ref tr10, .int 0])), (tr9, .inl (cJ, 2, .inr (.inl (fun _ => 0)))), (tr10, .inl (cB, 2, .inl (fun _ => 0)))]) [0, 1, 2, 3] rfl
  have hDc := hD.sub (ws' := [(x0, .inr (12, [.ref tp, .int 0, .ref sm, .ref tk, .int 0, .null, .null, .ref as, .ref bs, .ref cs, .ref ds, .int 0, .ref cr, .ref cy, .int 0, .ref tr])), (tr, .inr (2, [.int 0, .ref tr0, .ref tr1, .ref tr2, .ref tr3, .ref tr4, .ref tr5, .ref tr6, .ref tr7, .ref tr8, .ref tr9, .ref tr10, .int 0])), (tr9, .inl (cJ, 2, .inr (.inl (fun _ => 0)))), (tr10, .inl (cB, 2, .inl (fun _ => 0)))]) [0, 1, 2, 3] (by decide) rfl
  have hKc := hK.sub (tys' := [(cB, .byte), (cI, .int), (cJ, .long), (cZ, .boolean)]) [0, 1, 2, 3] rfl
  have hFc := va_free (wc := [(x0, .inr (12, [.ref tp, .int 0, .ref sm, .ref tk, .int 0, .null, .null, .ref as, .ref bs, .ref cs, .ref ds, .int 0, .ref cr, .ref cy, .int 0, .ref tr])), (tr, .inr (2, [.int 0, .ref tr0, .ref tr1, .ref tr2, .ref tr3, .ref tr4, .ref tr5, .ref tr6, .ref tr7, .ref tr8, .ref tr9, .ref tr10, .int 0])), (tr9, .inl (cJ, 2, .inr (.inl (fun _ => 0)))), (tr10, .inl (cB, 2, .inl (fun _ => 0)))]) hD hS hA [0, 1, 2, 3] rfl
  refine va_calli (va_runV (As := [.int 1, .int (xs 2), .int (xs 3)]) (rest := []) ⟨hx, hb, hml, hown, hts⟩ (t_three_1 l dC dI H.size cB cI cJ cZ x0 tr tr9 tr10 0 (.ref tr0) (.ref tr1) (.ref tr2) (.ref tr3) (.ref tr4) (.ref tr5) (.ref tr6) (.ref tr7) (.ref tr8) (fun _ => 0) (fun _ => 0) 0 (.ref tp) (.ref sm) (.ref tk) .null .null (.ref as) (.ref bs) (.ref cs) (.ref ds) (.ref cr) (.ref cy) 0 0 0 0 (xs 2) (xs 3)) (cwV 3 hts (gd_law (in_V kw_1660 kw_1661 kw_1662 kw_181 kc_X11_three)) rfl rfl rfl (by decide +kernel) ⟨Nat.le_of_ble_eq_true rfl, Nat.le_of_ble_eq_true rfl⟩) ⟨fun a U g mk q => by obtain ⟨q0, q1, qP, qK, qD⟩ := q; exact ⟨q0, q1, qP, va_K.moved (u := U) (U := U.calling g mk a) (Vm.Alike.refl U.vm) qK, qD⟩, va_recv hKc hPc (ci := 12) (q0 := 0) rfl rfl, fun U hU hW => ⟨rfl, by rw [hU], by rw [hU]; exact hPc, va_K.moved hW.alike hKc, hDc.weaken (fun _ _ _ _ => trivial)⟩⟩ rfl rfl hl.1 rfl (lv_room (Nat.le_of_ble_eq_true rfl)) dL_law_700 ⟨Nat.le_of_ble_eq_true rfl, Nat.le_of_ble_eq_true rfl⟩) hS (fun q _ h => hFc q h) hFc (fun r_7 u t_ H1 locs ht hvm hw hB hz1 hk1 hS => ?_)
  obtain ⟨s2, b2⟩ := u
  obtain ⟨hP1, hK1, hD1⟩ := hB
  rw [ht] at hP1
  have hK1 := va_K.moved hvm.symm hK1
  obtain ⟨hP, hD⟩ := va_join (wr := [(mo, .inr (13, moF a (fun _ => 0) (-9223372036854775808)))]) (w1 := [(x0, .inr (12, [.ref tp, .int 0, .ref sm, .ref tk, .int 0, .null, .null, .ref as, .ref bs, .ref cs, .ref ds, .int 0, .ref cr, .ref cy, .int 0, .ref tr])), (tr, .inr (2, [.int 0, .ref tr0, .ref tr1, .ref tr2, .ref tr3, .ref tr4, .ref tr5, .ref tr6, .ref tr7, .ref tr8, .ref tr9, .ref tr10, .int (nI (0 + 1))])), (tr9, .inl (cJ, 2, .inr (.inl s2))), (tr10, .inl (cB, 2, .inl b2))]) hP hD [0, 1, 2, 3] [4] rfl rfl (by decide) (by decide) hk1 hFc hP1 hD1
  have hK := (hK.sub (tys' := [(cS, .object "StreamQueries$Source"), (cO, .object "java/lang/Object")]) [4, 5] rfl).app hK1
  generalize H1 = H at hP hS ⊢
  have hP : va_P (dC, dI) vwCl [(mo, .inr (13, moF a (fun _ => 0) (-9223372036854775808))), (x0, .inr (12, [.ref tp, .int 0, .ref sm, .ref tk, .int 0, .null, .null, .ref as, .ref bs, .ref cs, .ref ds, .int 0, .ref cr, .ref cy, .int 0, .ref tr])), (tr, .inr (2, [.int 0, .ref tr0, .ref tr1, .ref tr2, .ref tr3, .ref tr4, .ref tr5, .ref tr6, .ref tr7, .ref tr8, .ref tr9, .ref tr10, .int (nI (0 + 1))])), (tr9, .inl (cJ, 2, .inr (.inl s2))), (tr10, .inl (cB, 2, .inl b2))] H := hP
  have hD : va_D A [(mo, .inr (13, moF a (fun _ => 0) (-9223372036854775808))), (x0, .inr (12, [.ref tp, .int 0, .ref sm, .ref tk, .int 0, .null, .null, .ref as, .ref bs, .ref cs, .ref ds, .int 0, .ref cr, .ref cy, .int 0, .ref tr])), (tr, .inr (2, [.int 0, .ref tr0, .ref tr1, .ref tr2, .ref tr3, .ref tr4, .ref tr5, .ref tr6, .ref tr7, .ref tr8, .ref tr9, .ref tr10, .int (nI (0 + 1))])), (tr9, .inl (cJ, 2, .inr (.inl s2))), (tr10, .inl (cB, 2, .inl b2))] := hD
  have hK : va_K (dC, dI) vwCl [(cS, .object "StreamQueries$Source"), (cO, .object "java/lang/Object"), (cB, .byte), (cI, .int), (cJ, .long), (cZ, .boolean)] s := hK
  have er_7 : r_7 = thr 1 (xs 2) (xs 3) := hw
  rw [er_7]
  refine lv_aload_n hx hb dL_law_703 rfl (lv_at hl 2 rfl) ?_
  refine lv_aload_n hx hb dL_law_704 rfl (lv_at hl 0 rfl) ?_
  refine lv_iload_n hx hb dL_law_705 rfl (lv_at hl 3 rfl) ?_
  refine lv_iconst (v := 1) hx hb dL_law_706 (by decide) ?_
  refine lv_iadd hx hb dL_law_707 ?_
  refine lv_topi (fun x_8 ex_8 => ?_)
  have ex_8 : x_8 = 1 := ex_8.trans (by decide)
  subst ex_8
  refine va_sld hx hb hX hbl hbA hS (i := 1) (vp_in_nI (n := 1) (N := 6) (by omega) (by omega)) dL_law_708 ?_
  refine lv_topi (fun x_9 ex_9 => ?_)
  have ex_9 : x_9 = xs 1 := ex_9.trans (congrArg xs (nI_clamp (n := 1) (by omega)))
  have ex_9 : x_9 = 1 := ex_9.trans he_1
  rw [ex_9]
  refine lv_aload_n hx hb dL_law_709 rfl (lv_at hl 0 rfl) ?_
  refine lv_iload_n hx hb dL_law_710 rfl (lv_at hl 3 rfl) ?_
  refine lv_iconst (v := 2) hx hb dL_law_711 (by decide) ?_
  refine lv_iadd hx hb dL_law_712 ?_
  refine lv_topi (fun x_10 ex_10 => ?_)
  have ex_10 : x_10 = 2 := ex_10.trans (by decide)
  subst ex_10
  refine va_sld hx hb hX hbl hbA hS (i := 2) (vp_in_nI (n := 2) (N := 6) (by omega) (by omega)) dL_law_713 ?_
  refine lv_topi (fun x_11 ex_11 => ?_)
  have ex_11 : x_11 = xs 2 := ex_11.trans (congrArg xs (nI_clamp (n := 2) (by omega)))
  rw [ex_11]
  refine lv_aload_n hx hb dL_law_714 rfl (lv_at hl 0 rfl) ?_
  refine lv_iload_n hx hb dL_law_715 rfl (lv_at hl 3 rfl) ?_
  refine lv_iconst (v := 3) hx hb dL_law_716 (by decide) ?_
  refine lv_iadd hx hb dL_law_717 ?_
  refine lv_topi (fun x_12 ex_12 => ?_)
  have ex_12 : x_12 = 3 := ex_12.trans (by decide)
  subst ex_12
  refine va_sld hx hb hX hbl hbA hS (i := 3) (vp_in_nI (n := 3) (N := 6) (by omega) (by omega)) dL_law_718 ?_
  refine lv_topi (fun x_13 ex_13 => ?_)
  have ex_13 : x_13 = xs 3 := ex_13.trans (congrArg xs (nI_clamp (n := 3) (by omega)))
  rw [ex_13]
  have hPc := hP.sub (ws' := [(mo, .inr (13, moF a (fun _ => 0) (-9223372036854775808)))]) [0] rfl
  have hDc := hD.sub (ws' := [(mo, .inr (13, moF a (fun _ => 0) (-9223372036854775808)))]) [0] (by decide) rfl
  have hKc := hK.sub (tys' := [(cB, .byte), (cI, .int), (cJ, .long), (cZ, .boolean)]) [2, 3, 4, 5] rfl
  have hFc := va_free (wc := [(mo, .inr (13, moF a (fun _ => 0) (-9223372036854775808)))]) hD hS hA [0] rfl
  refine va_calli (va_runV (As := [.int 1, .int (xs 2), .int (xs 3)]) (rest := [.int (thr 1 (xs 2) (xs 3))]) ⟨hx, hb, hml, hown, hts⟩ (t_mthree_1 l dC dI H.size cB cI cJ cZ mo a (fun _ => 0) (-9223372036854775808) (xs 2) (xs 3)) (cwV 3 hts (gd_law (in_V kw_2500 kw_2501 kw_2502 kw_191 kc_X12_three)) rfl rfl rfl (by decide +kernel) ⟨Nat.le_of_ble_eq_true rfl, Nat.le_of_ble_eq_true rfl⟩) ⟨fun a U g mk q => by obtain ⟨q0, q1, qP, qK, qD⟩ := q; exact ⟨q0, q1, qP, va_K.moved (u := U) (U := U.calling g mk a) (Vm.Alike.refl U.vm) qK, qD⟩, va_recv hKc hPc (ci := 13) (q0 := 0) rfl rfl, fun U hU hW => ⟨rfl, by rw [hU], by rw [hU]; exact hPc, va_K.moved hW.alike hKc, hDc.weaken (fun _ _ _ _ => trivial)⟩⟩ rfl rfl hl.1 rfl (lv_room (Nat.le_of_ble_eq_true rfl)) dL_law_719 ⟨Nat.le_of_ble_eq_true rfl, Nat.le_of_ble_eq_true rfl⟩) hS (fun q _ h => hFc q h) hFc (fun r_14 u t_ H1 locs ht hvm hw hB hz1 hk1 hS => ?_)
  obtain ⟨hP1, hK1, hD1⟩ := hB
  rw [ht] at hP1
  have hK1 := va_K.moved hvm.symm hK1
  obtain ⟨hP, hD⟩ := va_join (wr := [(x0, .inr (12, [.ref tp, .int 0, .ref sm, .ref tk, .int 0, .null, .null, .ref as, .ref bs, .ref cs, .ref ds, .int 0, .ref cr, .ref cy, .int 0, .ref tr])), (tr, .inr (2, [.int 0, .ref tr0, .ref tr1, .ref tr2, .ref tr3, .ref tr4, .ref tr5, .ref tr6, .ref tr7, .ref tr8, .ref tr9, .ref tr10, .int (nI (0 + 1))])), (tr9, .inl (cJ, 2, .inr (.inl s2))), (tr10, .inl (cB, 2, .inl b2))]) (w1 := [(mo, .inr (13, moF a (fun _ => 0) (-9223372036854775808)))]) hP hD [0] [1, 2, 3, 4] rfl rfl (by decide) (by decide) hk1 hFc hP1 hD1
  have hK := (hK.sub (tys' := [(cS, .object "StreamQueries$Source"), (cO, .object "java/lang/Object")]) [0, 1] rfl).app hK1
  generalize H1 = H at hP hS ⊢
  have hP : va_P (dC, dI) vwCl [(x0, .inr (12, [.ref tp, .int 0, .ref sm, .ref tk, .int 0, .null, .null, .ref as, .ref bs, .ref cs, .ref ds, .int 0, .ref cr, .ref cy, .int 0, .ref tr])), (tr, .inr (2, [.int 0, .ref tr0, .ref tr1, .ref tr2, .ref tr3, .ref tr4, .ref tr5, .ref tr6, .ref tr7, .ref tr8, .ref tr9, .ref tr10, .int (nI (0 + 1))])), (tr9, .inl (cJ, 2, .inr (.inl s2))), (tr10, .inl (cB, 2, .inl b2)), (mo, .inr (13, moF a (fun _ => 0) (-9223372036854775808)))] H := hP
  have hD : va_D A [(x0, .inr (12, [.ref tp, .int 0, .ref sm, .ref tk, .int 0, .null, .null, .ref as, .ref bs, .ref cs, .ref ds, .int 0, .ref cr, .ref cy, .int 0, .ref tr])), (tr, .inr (2, [.int 0, .ref tr0, .ref tr1, .ref tr2, .ref tr3, .ref tr4, .ref tr5, .ref tr6, .ref tr7, .ref tr8, .ref tr9, .ref tr10, .int (nI (0 + 1))])), (tr9, .inl (cJ, 2, .inr (.inl s2))), (tr10, .inl (cB, 2, .inl b2)), (mo, .inr (13, moF a (fun _ => 0) (-9223372036854775808)))] := hD
  have hK : va_K (dC, dI) vwCl [(cS, .object "StreamQueries$Source"), (cO, .object "java/lang/Object"), (cB, .byte), (cI, .int), (cJ, .long), (cZ, .boolean)] s := hK
  have er_14 : r_14 = thr 1 (xs 2) (xs 3) := hw
  rw [er_14]
  refine lv_icmp_eq (tgt := 750) hx hb dL_law_722 (by decide) (fun c_15 => ?_) (fun c_15 => ?_)
  · skip
    exact law_tail C0 hA hbA hAf (Nat.le_of_ble_eq_true rfl) (Nat.le_of_ble_eq_true rfl) hS (lv_sub hl [0, 1, 2, 3] rfl)
  · skip
    exact absurd rfl c_15
set_option maxHeartbeats 4000000 in
set_option maxRecDepth 100000 in
theorem lc_18_2 {p : Program} {l : Launch} {e : Env} {s : State} {m : MethodId} {below : List Frame} {meth : Method} {c : Code} {dC : Nat → ClassId} {dI : Nat → Nat → Nat} {cB cI cJ cZ cS cO : ClassId} {b : Nat} {xs : Nat → Int32} {K V : Nat → Nat} {fz : Value} {A : Nat → Prop} {as as0 as1 as2 as3 bs bs0 bs1 bs2 bs3 cr cs cs0 cs1 cs2 cs3 cy ds ds0 ds1 ds2 ds3 mo sm sm0 sm1 sm2 sm3 sm4 sm5 tk tk0 tk1 tk2 tk3 tk4 tp tr tr0 tr1 tr10 tr2 tr3 tr4 tr5 tr6 tr7 tr8 tr9 x0 : Nat} {a : Nat → Nat} (C0 : lw_At p s m meth c b 6 xs) (hZ : zE K V fz A s) (hA : ∀ q : Nat, s.heap.size ≤ q → A q) (hbA : ¬ A b) (hAf : ∀ q : Nat, A q → s.heap.size ≤ q) (he_1 : xs 1 = 2) (hK : va_K (dC, dI) vwCl [(cB, .byte), (cI, .int), (cJ, .long), (cZ, .boolean), (cS, .object "StreamQueries$Source"), (cO, .object "java/lang/Object")] s) {H : Heap} {locs : List Loc} {ls : Array Slot} (hP : va_P (dC, dI) vwCl [(x0, .inr (12, [.ref tp, .int 0, .ref sm, .ref tk, .int 0, .null, .null, .ref as, .ref bs, .ref cs, .ref ds, .int 0, .ref cr, .ref cy, .int 0, .ref tr])), (tr, .inr (2, [.int 0, .ref tr0, .ref tr1, .ref tr2, .ref tr3, .ref tr4, .ref tr5, .ref tr6, .ref tr7, .ref tr8, .ref tr9, .ref tr10, .int 0])), (tr9, .inl (cJ, 2, .inr (.inl (fun _ => 0)))), (tr10, .inl (cB, 2, .inl (fun _ => 0))), (mo, .inr (13, moF a (fun _ => 0) (-9223372036854775808)))] H) (hD : va_D A [(x0, .inr (12, [.ref tp, .int 0, .ref sm, .ref tk, .int 0, .null, .null, .ref as, .ref bs, .ref cs, .ref ds, .int 0, .ref cr, .ref cy, .int 0, .ref tr])), (tr, .inr (2, [.int 0, .ref tr0, .ref tr1, .ref tr2, .ref tr3, .ref tr4, .ref tr5, .ref tr6, .ref tr7, .ref tr8, .ref tr9, .ref tr10, .int 0])), (tr9, .inl (cJ, 2, .inr (.inl (fun _ => 0)))), (tr10, .inl (cB, 2, .inl (fun _ => 0))), (mo, .inr (13, moF a (fun _ => 0) (-9223372036854775808)))]) (hS : va_S A s.heap H locs) (hl : lv_has ls 4 [(0, .ref b), (1, .ref x0), (2, .ref mo), (3, .int 0)]) : W p l e room_1 s m #[Value.ref b] below meth c H locs 127 886803 (lw_Z below #[Value.ref b] s) (F0 m 684 ls []) := by
  obtain ⟨hx, hb, hr, hml, hown, hts, hX, hbl, hlocks, hgv⟩ := id C0
  refine lv_aload_n hx hb dL_law_684 rfl (lv_at hl 1 rfl) ?_
  refine lv_aload_n hx hb dL_law_685 rfl (lv_at hl 0 rfl) ?_
  refine lv_iload_n hx hb dL_law_686 rfl (lv_at hl 3 rfl) ?_
  refine lv_iconst (v := 1) hx hb dL_law_687 (by decide) ?_
  refine lv_iadd hx hb dL_law_688 ?_
  refine lv_topi (fun x_1 ex_1 => ?_)
  have ex_1 : x_1 = 1 := ex_1.trans (by decide)
  subst ex_1
  refine va_sld hx hb hX hbl hbA hS (i := 1) (vp_in_nI (n := 1) (N := 6) (by omega) (by omega)) dL_law_689 ?_
  refine lv_topi (fun x_2 ex_2 => ?_)
  have ex_2 : x_2 = xs 1 := ex_2.trans (congrArg xs (nI_clamp (n := 1) (by omega)))
  have ex_2 : x_2 = 2 := ex_2.trans he_1
  rw [ex_2]
  refine lv_aload_n hx hb dL_law_690 rfl (lv_at hl 0 rfl) ?_
  refine lv_iload_n hx hb dL_law_691 rfl (lv_at hl 3 rfl) ?_
  refine lv_iconst (v := 2) hx hb dL_law_692 (by decide) ?_
  refine lv_iadd hx hb dL_law_693 ?_
  refine lv_topi (fun x_3 ex_3 => ?_)
  have ex_3 : x_3 = 2 := ex_3.trans (by decide)
  subst ex_3
  refine va_sld hx hb hX hbl hbA hS (i := 2) (vp_in_nI (n := 2) (N := 6) (by omega) (by omega)) dL_law_694 ?_
  refine lv_topi (fun x_4 ex_4 => ?_)
  have ex_4 : x_4 = xs 2 := ex_4.trans (congrArg xs (nI_clamp (n := 2) (by omega)))
  rw [ex_4]
  refine lv_aload_n hx hb dL_law_695 rfl (lv_at hl 0 rfl) ?_
  refine lv_iload_n hx hb dL_law_696 rfl (lv_at hl 3 rfl) ?_
  refine lv_iconst (v := 3) hx hb dL_law_697 (by decide) ?_
  refine lv_iadd hx hb dL_law_698 ?_
  refine lv_topi (fun x_5 ex_5 => ?_)
  have ex_5 : x_5 = 3 := ex_5.trans (by decide)
  subst ex_5
  refine va_sld hx hb hX hbl hbA hS (i := 3) (vp_in_nI (n := 3) (N := 6) (by omega) (by omega)) dL_law_699 ?_
  refine lv_topi (fun x_6 ex_6 => ?_)
  have ex_6 : x_6 = xs 3 := ex_6.trans (congrArg xs (nI_clamp (n := 3) (by omega)))
  rw [ex_6]
  have hPc := hP.sub (ws' := [(x0, .inr (12, [.ref tp, .int 0, .ref sm, .ref tk, .int 0, .null, .null, .ref as, .ref bs, .ref cs, .ref ds, .int 0, .ref cr, .ref cy, .int 0, .ref tr])), (tr, .inr (2, [.int 0, .ref tr0, .ref tr1, .ref tr2, .ref tr3, .ref tr4, .ref tr5, .ref tr6, .ref tr7, .ref tr8, .ref tr9, .ref tr10, .int 0])), (tr9, .inl (cJ, 2, .inr (.inl (fun _ => 0)))), (tr10, .inl (cB, 2, .inl (fun _ => 0)))]) [0, 1, 2, 3] rfl
  have hDc := hD.sub (ws' := [(x0, .inr (12, [.ref tp, .int 0, .ref sm, .ref tk, .int 0, .null, .null, .ref as, .ref bs, .ref cs, .ref ds, .int 0, .ref cr, .ref cy, .int 0, .ref tr])), (tr, .inr (2, [.int 0, .ref tr0, .ref tr1, .ref tr2, .ref tr3, .ref tr4, .ref tr5, .ref tr6, .ref tr7, .ref tr8, .ref tr9, .ref tr10, .int 0])), (tr9, .inl (cJ, 2, .inr (.inl (fun _ => 0)))), (tr10, .inl (cB, 2, .inl (fun _ => 0)))]) [0, 1, 2, 3] (by decide) rfl
  have hKc := hK.sub (tys' := [(cB, .byte), (cI, .int), (cJ, .long), (cZ, .boolean)]) [0, 1, 2, 3] rfl
  have hFc := va_free (wc := [(x0, .inr (12, [.ref tp, .int 0, .ref sm, .ref tk, .int 0, .null, .null, .ref as, .ref bs, .ref cs, .ref ds, .int 0, .ref cr, .ref cy, .int 0, .ref tr])), (tr, .inr (2, [.int 0, .ref tr0, .ref tr1, .ref tr2, .ref tr3, .ref tr4, .ref tr5, .ref tr6, .ref tr7, .ref tr8, .ref tr9, .ref tr10, .int 0])), (tr9, .inl (cJ, 2, .inr (.inl (fun _ => 0)))), (tr10, .inl (cB, 2, .inl (fun _ => 0)))]) hD hS hA [0, 1, 2, 3] rfl
  refine va_calli (va_runV (As := [.int 2, .int (xs 2), .int (xs 3)]) (rest := []) ⟨hx, hb, hml, hown, hts⟩ (t_three_2 l dC dI H.size cB cI cJ cZ x0 tr tr9 tr10 0 (.ref tr0) (.ref tr1) (.ref tr2) (.ref tr3) (.ref tr4) (.ref tr5) (.ref tr6) (.ref tr7) (.ref tr8) (fun _ => 0) (fun _ => 0) 0 (.ref tp) (.ref sm) (.ref tk) .null .null (.ref as) (.ref bs) (.ref cs) (.ref ds) (.ref cr) (.ref cy) 0 0 0 0 (xs 2) (xs 3)) (cwV 3 hts (gd_law (in_V kw_1660 kw_1661 kw_1662 kw_181 kc_X11_three)) rfl rfl rfl (by decide +kernel) ⟨Nat.le_of_ble_eq_true rfl, Nat.le_of_ble_eq_true rfl⟩) ⟨fun a U g mk q => by obtain ⟨q0, q1, qP, qK, qD⟩ := q; exact ⟨q0, q1, qP, va_K.moved (u := U) (U := U.calling g mk a) (Vm.Alike.refl U.vm) qK, qD⟩, va_recv hKc hPc (ci := 12) (q0 := 0) rfl rfl, fun U hU hW => ⟨rfl, by rw [hU], by rw [hU]; exact hPc, va_K.moved hW.alike hKc, hDc.weaken (fun _ _ _ _ => trivial)⟩⟩ rfl rfl hl.1 rfl (lv_room (Nat.le_of_ble_eq_true rfl)) dL_law_700 ⟨Nat.le_of_ble_eq_true rfl, Nat.le_of_ble_eq_true rfl⟩) hS (fun q _ h => hFc q h) hFc (fun r_7 u t_ H1 locs ht hvm hw hB hz1 hk1 hS => ?_)
  obtain ⟨s2, b2⟩ := u
  obtain ⟨hP1, hK1, hD1⟩ := hB
  rw [ht] at hP1
  have hK1 := va_K.moved hvm.symm hK1
  obtain ⟨hP, hD⟩ := va_join (wr := [(mo, .inr (13, moF a (fun _ => 0) (-9223372036854775808)))]) (w1 := [(x0, .inr (12, [.ref tp, .int 0, .ref sm, .ref tk, .int 0, .null, .null, .ref as, .ref bs, .ref cs, .ref ds, .int 0, .ref cr, .ref cy, .int 0, .ref tr])), (tr, .inr (2, [.int 0, .ref tr0, .ref tr1, .ref tr2, .ref tr3, .ref tr4, .ref tr5, .ref tr6, .ref tr7, .ref tr8, .ref tr9, .ref tr10, .int (nI (0 + 1))])), (tr9, .inl (cJ, 2, .inr (.inl s2))), (tr10, .inl (cB, 2, .inl b2))]) hP hD [0, 1, 2, 3] [4] rfl rfl (by decide) (by decide) hk1 hFc hP1 hD1
  have hK := (hK.sub (tys' := [(cS, .object "StreamQueries$Source"), (cO, .object "java/lang/Object")]) [4, 5] rfl).app hK1
  generalize H1 = H at hP hS ⊢
  have hP : va_P (dC, dI) vwCl [(mo, .inr (13, moF a (fun _ => 0) (-9223372036854775808))), (x0, .inr (12, [.ref tp, .int 0, .ref sm, .ref tk, .int 0, .null, .null, .ref as, .ref bs, .ref cs, .ref ds, .int 0, .ref cr, .ref cy, .int 0, .ref tr])), (tr, .inr (2, [.int 0, .ref tr0, .ref tr1, .ref tr2, .ref tr3, .ref tr4, .ref tr5, .ref tr6, .ref tr7, .ref tr8, .ref tr9, .ref tr10, .int (nI (0 + 1))])), (tr9, .inl (cJ, 2, .inr (.inl s2))), (tr10, .inl (cB, 2, .inl b2))] H := hP
  have hD : va_D A [(mo, .inr (13, moF a (fun _ => 0) (-9223372036854775808))), (x0, .inr (12, [.ref tp, .int 0, .ref sm, .ref tk, .int 0, .null, .null, .ref as, .ref bs, .ref cs, .ref ds, .int 0, .ref cr, .ref cy, .int 0, .ref tr])), (tr, .inr (2, [.int 0, .ref tr0, .ref tr1, .ref tr2, .ref tr3, .ref tr4, .ref tr5, .ref tr6, .ref tr7, .ref tr8, .ref tr9, .ref tr10, .int (nI (0 + 1))])), (tr9, .inl (cJ, 2, .inr (.inl s2))), (tr10, .inl (cB, 2, .inl b2))] := hD
  have hK : va_K (dC, dI) vwCl [(cS, .object "StreamQueries$Source"), (cO, .object "java/lang/Object"), (cB, .byte), (cI, .int), (cJ, .long), (cZ, .boolean)] s := hK
  have er_7 : r_7 = thr 2 (xs 2) (xs 3) := hw
  rw [er_7]
  refine lv_aload_n hx hb dL_law_703 rfl (lv_at hl 2 rfl) ?_
  refine lv_aload_n hx hb dL_law_704 rfl (lv_at hl 0 rfl) ?_
  refine lv_iload_n hx hb dL_law_705 rfl (lv_at hl 3 rfl) ?_
  refine lv_iconst (v := 1) hx hb dL_law_706 (by decide) ?_
  refine lv_iadd hx hb dL_law_707 ?_
  refine lv_topi (fun x_8 ex_8 => ?_)
  have ex_8 : x_8 = 1 := ex_8.trans (by decide)
  subst ex_8
  refine va_sld hx hb hX hbl hbA hS (i := 1) (vp_in_nI (n := 1) (N := 6) (by omega) (by omega)) dL_law_708 ?_
  refine lv_topi (fun x_9 ex_9 => ?_)
  have ex_9 : x_9 = xs 1 := ex_9.trans (congrArg xs (nI_clamp (n := 1) (by omega)))
  have ex_9 : x_9 = 2 := ex_9.trans he_1
  rw [ex_9]
  refine lv_aload_n hx hb dL_law_709 rfl (lv_at hl 0 rfl) ?_
  refine lv_iload_n hx hb dL_law_710 rfl (lv_at hl 3 rfl) ?_
  refine lv_iconst (v := 2) hx hb dL_law_711 (by decide) ?_
  refine lv_iadd hx hb dL_law_712 ?_
  refine lv_topi (fun x_10 ex_10 => ?_)
  have ex_10 : x_10 = 2 := ex_10.trans (by decide)
  subst ex_10
  refine va_sld hx hb hX hbl hbA hS (i := 2) (vp_in_nI (n := 2) (N := 6) (by omega) (by omega)) dL_law_713 ?_
  refine lv_topi (fun x_11 ex_11 => ?_)
  have ex_11 : x_11 = xs 2 := ex_11.trans (congrArg xs (nI_clamp (n := 2) (by omega)))
  rw [ex_11]
  refine lv_aload_n hx hb dL_law_714 rfl (lv_at hl 0 rfl) ?_
  refine lv_iload_n hx hb dL_law_715 rfl (lv_at hl 3 rfl) ?_
  refine lv_iconst (v := 3) hx hb dL_law_716 (by decide) ?_
  refine lv_iadd hx hb dL_law_717 ?_
  refine lv_topi (fun x_12 ex_12 => ?_)
  have ex_12 : x_12 = 3 := ex_12.trans (by decide)
  subst ex_12
  refine va_sld hx hb hX hbl hbA hS (i := 3) (vp_in_nI (n := 3) (N := 6) (by omega) (by omega)) dL_law_718 ?_
  refine lv_topi (fun x_13 ex_13 => ?_)
  have ex_13 : x_13 = xs 3 := ex_13.trans (congrArg xs (nI_clamp (n := 3) (by omega)))
  rw [ex_13]
  have hPc := hP.sub (ws' := [(mo, .inr (13, moF a (fun _ => 0) (-9223372036854775808)))]) [0] rfl
  have hDc := hD.sub (ws' := [(mo, .inr (13, moF a (fun _ => 0) (-9223372036854775808)))]) [0] (by decide) rfl
  have hKc := hK.sub (tys' := [(cB, .byte), (cI, .int), (cJ, .long), (cZ, .boolean)]) [2, 3, 4, 5] rfl
  have hFc := va_free (wc := [(mo, .inr (13, moF a (fun _ => 0) (-9223372036854775808)))]) hD hS hA [0] rfl
  refine va_calli (va_runV (As := [.int 2, .int (xs 2), .int (xs 3)]) (rest := [.int (thr 2 (xs 2) (xs 3))]) ⟨hx, hb, hml, hown, hts⟩ (t_mthree_2 l dC dI H.size cB cI cJ cZ mo a (fun _ => 0) (-9223372036854775808) (xs 2) (xs 3)) (cwV 3 hts (gd_law (in_V kw_2500 kw_2501 kw_2502 kw_191 kc_X12_three)) rfl rfl rfl (by decide +kernel) ⟨Nat.le_of_ble_eq_true rfl, Nat.le_of_ble_eq_true rfl⟩) ⟨fun a U g mk q => by obtain ⟨q0, q1, qP, qK, qD⟩ := q; exact ⟨q0, q1, qP, va_K.moved (u := U) (U := U.calling g mk a) (Vm.Alike.refl U.vm) qK, qD⟩, va_recv hKc hPc (ci := 13) (q0 := 0) rfl rfl, fun U hU hW => ⟨rfl, by rw [hU], by rw [hU]; exact hPc, va_K.moved hW.alike hKc, hDc.weaken (fun _ _ _ _ => trivial)⟩⟩ rfl rfl hl.1 rfl (lv_room (Nat.le_of_ble_eq_true rfl)) dL_law_719 ⟨Nat.le_of_ble_eq_true rfl, Nat.le_of_ble_eq_true rfl⟩) hS (fun q _ h => hFc q h) hFc (fun r_14 u t_ H1 locs ht hvm hw hB hz1 hk1 hS => ?_)
  obtain ⟨hP1, hK1, hD1⟩ := hB
  rw [ht] at hP1
  have hK1 := va_K.moved hvm.symm hK1
  obtain ⟨hP, hD⟩ := va_join (wr := [(x0, .inr (12, [.ref tp, .int 0, .ref sm, .ref tk, .int 0, .null, .null, .ref as, .ref bs, .ref cs, .ref ds, .int 0, .ref cr, .ref cy, .int 0, .ref tr])), (tr, .inr (2, [.int 0, .ref tr0, .ref tr1, .ref tr2, .ref tr3, .ref tr4, .ref tr5, .ref tr6, .ref tr7, .ref tr8, .ref tr9, .ref tr10, .int (nI (0 + 1))])), (tr9, .inl (cJ, 2, .inr (.inl s2))), (tr10, .inl (cB, 2, .inl b2))]) (w1 := [(mo, .inr (13, moF a (fun _ => 0) (-9223372036854775808)))]) hP hD [0] [1, 2, 3, 4] rfl rfl (by decide) (by decide) hk1 hFc hP1 hD1
  have hK := (hK.sub (tys' := [(cS, .object "StreamQueries$Source"), (cO, .object "java/lang/Object")]) [0, 1] rfl).app hK1
  generalize H1 = H at hP hS ⊢
  have hP : va_P (dC, dI) vwCl [(x0, .inr (12, [.ref tp, .int 0, .ref sm, .ref tk, .int 0, .null, .null, .ref as, .ref bs, .ref cs, .ref ds, .int 0, .ref cr, .ref cy, .int 0, .ref tr])), (tr, .inr (2, [.int 0, .ref tr0, .ref tr1, .ref tr2, .ref tr3, .ref tr4, .ref tr5, .ref tr6, .ref tr7, .ref tr8, .ref tr9, .ref tr10, .int (nI (0 + 1))])), (tr9, .inl (cJ, 2, .inr (.inl s2))), (tr10, .inl (cB, 2, .inl b2)), (mo, .inr (13, moF a (fun _ => 0) (-9223372036854775808)))] H := hP
  have hD : va_D A [(x0, .inr (12, [.ref tp, .int 0, .ref sm, .ref tk, .int 0, .null, .null, .ref as, .ref bs, .ref cs, .ref ds, .int 0, .ref cr, .ref cy, .int 0, .ref tr])), (tr, .inr (2, [.int 0, .ref tr0, .ref tr1, .ref tr2, .ref tr3, .ref tr4, .ref tr5, .ref tr6, .ref tr7, .ref tr8, .ref tr9, .ref tr10, .int (nI (0 + 1))])), (tr9, .inl (cJ, 2, .inr (.inl s2))), (tr10, .inl (cB, 2, .inl b2)), (mo, .inr (13, moF a (fun _ => 0) (-9223372036854775808)))] := hD
  have hK : va_K (dC, dI) vwCl [(cS, .object "StreamQueries$Source"), (cO, .object "java/lang/Object"), (cB, .byte), (cI, .int), (cJ, .long), (cZ, .boolean)] s := hK
  have er_14 : r_14 = thr 2 (xs 2) (xs 3) := hw
  rw [er_14]
  refine lv_icmp_eq (tgt := 750) hx hb dL_law_722 (by decide) (fun c_15 => ?_) (fun c_15 => ?_)
  · skip
    exact law_tail C0 hA hbA hAf (Nat.le_of_ble_eq_true rfl) (Nat.le_of_ble_eq_true rfl) hS (lv_sub hl [0, 1, 2, 3] rfl)
  · skip
    exact absurd rfl c_15
set_option maxHeartbeats 4000000 in
set_option maxRecDepth 100000 in
theorem lc_18_3 {p : Program} {l : Launch} {e : Env} {s : State} {m : MethodId} {below : List Frame} {meth : Method} {c : Code} {dC : Nat → ClassId} {dI : Nat → Nat → Nat} {cB cI cJ cZ cS cO : ClassId} {b : Nat} {xs : Nat → Int32} {K V : Nat → Nat} {fz : Value} {A : Nat → Prop} {as as0 as1 as2 as3 bs bs0 bs1 bs2 bs3 cr cs cs0 cs1 cs2 cs3 cy ds ds0 ds1 ds2 ds3 mo sm sm0 sm1 sm2 sm3 sm4 sm5 tk tk0 tk1 tk2 tk3 tk4 tp tr tr0 tr1 tr10 tr2 tr3 tr4 tr5 tr6 tr7 tr8 tr9 x0 : Nat} {a : Nat → Nat} (C0 : lw_At p s m meth c b 6 xs) (hZ : zE K V fz A s) (hA : ∀ q : Nat, s.heap.size ≤ q → A q) (hbA : ¬ A b) (hAf : ∀ q : Nat, A q → s.heap.size ≤ q) (he_1 : xs 1 = 3) (hK : va_K (dC, dI) vwCl [(cB, .byte), (cI, .int), (cJ, .long), (cZ, .boolean), (cS, .object "StreamQueries$Source"), (cO, .object "java/lang/Object")] s) {H : Heap} {locs : List Loc} {ls : Array Slot} (hP : va_P (dC, dI) vwCl [(x0, .inr (12, [.ref tp, .int 0, .ref sm, .ref tk, .int 0, .null, .null, .ref as, .ref bs, .ref cs, .ref ds, .int 0, .ref cr, .ref cy, .int 0, .ref tr])), (tr, .inr (2, [.int 0, .ref tr0, .ref tr1, .ref tr2, .ref tr3, .ref tr4, .ref tr5, .ref tr6, .ref tr7, .ref tr8, .ref tr9, .ref tr10, .int 0])), (tr9, .inl (cJ, 2, .inr (.inl (fun _ => 0)))), (tr10, .inl (cB, 2, .inl (fun _ => 0))), (mo, .inr (13, moF a (fun _ => 0) (-9223372036854775808)))] H) (hD : va_D A [(x0, .inr (12, [.ref tp, .int 0, .ref sm, .ref tk, .int 0, .null, .null, .ref as, .ref bs, .ref cs, .ref ds, .int 0, .ref cr, .ref cy, .int 0, .ref tr])), (tr, .inr (2, [.int 0, .ref tr0, .ref tr1, .ref tr2, .ref tr3, .ref tr4, .ref tr5, .ref tr6, .ref tr7, .ref tr8, .ref tr9, .ref tr10, .int 0])), (tr9, .inl (cJ, 2, .inr (.inl (fun _ => 0)))), (tr10, .inl (cB, 2, .inl (fun _ => 0))), (mo, .inr (13, moF a (fun _ => 0) (-9223372036854775808)))]) (hS : va_S A s.heap H locs) (hl : lv_has ls 4 [(0, .ref b), (1, .ref x0), (2, .ref mo), (3, .int 0)]) : W p l e room_1 s m #[Value.ref b] below meth c H locs 127 886803 (lw_Z below #[Value.ref b] s) (F0 m 684 ls []) := by
  obtain ⟨hx, hb, hr, hml, hown, hts, hX, hbl, hlocks, hgv⟩ := id C0
  refine lv_aload_n hx hb dL_law_684 rfl (lv_at hl 1 rfl) ?_
  refine lv_aload_n hx hb dL_law_685 rfl (lv_at hl 0 rfl) ?_
  refine lv_iload_n hx hb dL_law_686 rfl (lv_at hl 3 rfl) ?_
  refine lv_iconst (v := 1) hx hb dL_law_687 (by decide) ?_
  refine lv_iadd hx hb dL_law_688 ?_
  refine lv_topi (fun x_1 ex_1 => ?_)
  have ex_1 : x_1 = 1 := ex_1.trans (by decide)
  subst ex_1
  refine va_sld hx hb hX hbl hbA hS (i := 1) (vp_in_nI (n := 1) (N := 6) (by omega) (by omega)) dL_law_689 ?_
  refine lv_topi (fun x_2 ex_2 => ?_)
  have ex_2 : x_2 = xs 1 := ex_2.trans (congrArg xs (nI_clamp (n := 1) (by omega)))
  have ex_2 : x_2 = 3 := ex_2.trans he_1
  rw [ex_2]
  refine lv_aload_n hx hb dL_law_690 rfl (lv_at hl 0 rfl) ?_
  refine lv_iload_n hx hb dL_law_691 rfl (lv_at hl 3 rfl) ?_
  refine lv_iconst (v := 2) hx hb dL_law_692 (by decide) ?_
  refine lv_iadd hx hb dL_law_693 ?_
  refine lv_topi (fun x_3 ex_3 => ?_)
  have ex_3 : x_3 = 2 := ex_3.trans (by decide)
  subst ex_3
  refine va_sld hx hb hX hbl hbA hS (i := 2) (vp_in_nI (n := 2) (N := 6) (by omega) (by omega)) dL_law_694 ?_
  refine lv_topi (fun x_4 ex_4 => ?_)
  have ex_4 : x_4 = xs 2 := ex_4.trans (congrArg xs (nI_clamp (n := 2) (by omega)))
  rw [ex_4]
  refine lv_aload_n hx hb dL_law_695 rfl (lv_at hl 0 rfl) ?_
  refine lv_iload_n hx hb dL_law_696 rfl (lv_at hl 3 rfl) ?_
  refine lv_iconst (v := 3) hx hb dL_law_697 (by decide) ?_
  refine lv_iadd hx hb dL_law_698 ?_
  refine lv_topi (fun x_5 ex_5 => ?_)
  have ex_5 : x_5 = 3 := ex_5.trans (by decide)
  subst ex_5
  refine va_sld hx hb hX hbl hbA hS (i := 3) (vp_in_nI (n := 3) (N := 6) (by omega) (by omega)) dL_law_699 ?_
  refine lv_topi (fun x_6 ex_6 => ?_)
  have ex_6 : x_6 = xs 3 := ex_6.trans (congrArg xs (nI_clamp (n := 3) (by omega)))
  rw [ex_6]
  have hPc := hP.sub (ws' := [(x0, .inr (12, [.ref tp, .int 0, .ref sm, .ref tk, .int 0, .null, .null, .ref as, .ref bs, .ref cs, .ref ds, .int 0, .ref cr, .ref cy, .int 0, .ref tr])), (tr, .inr (2, [.int 0, .ref tr0, .ref tr1, .ref tr2, .ref tr3, .ref tr4, .ref tr5, .ref tr6, .ref tr7, .ref tr8, .ref tr9, .ref tr10, .int 0])), (tr9, .inl (cJ, 2, .inr (.inl (fun _ => 0)))), (tr10, .inl (cB, 2, .inl (fun _ => 0)))]) [0, 1, 2, 3] rfl
  have hDc := hD.sub (ws' := [(x0, .inr (12, [.ref tp, .int 0, .ref sm, .ref tk, .int 0, .null, .null, .ref as, .ref bs, .ref cs, .ref ds, .int 0, .ref cr, .ref cy, .int 0, .ref tr])), (tr, .inr (2, [.int 0, .ref tr0, .ref tr1, .ref tr2, .ref tr3, .ref tr4, .ref tr5, .ref tr6, .ref tr7, .ref tr8, .ref tr9, .ref tr10, .int 0])), (tr9, .inl (cJ, 2, .inr (.inl (fun _ => 0)))), (tr10, .inl (cB, 2, .inl (fun _ => 0)))]) [0, 1, 2, 3] (by decide) rfl
  have hKc := hK.sub (tys' := [(cB, .byte), (cI, .int), (cJ, .long), (cZ, .boolean)]) [0, 1, 2, 3] rfl
  have hFc := va_free (wc := [(x0, .inr (12, [.ref tp, .int 0, .ref sm, .ref tk, .int 0, .null, .null, .ref as, .ref bs, .ref cs, .ref ds, .int 0, .ref cr, .ref cy, .int 0, .ref tr])), (tr, .inr (2, [.int 0, .ref tr0, .ref tr1, .ref tr2, .ref tr3, .ref tr4, .ref tr5, .ref tr6, .ref tr7, .ref tr8, .ref tr9, .ref tr10, .int 0])), (tr9, .inl (cJ, 2, .inr (.inl (fun _ => 0)))), (tr10, .inl (cB, 2, .inl (fun _ => 0)))]) hD hS hA [0, 1, 2, 3] rfl
  refine va_calli (va_runV (As := [.int 3, .int (xs 2), .int (xs 3)]) (rest := []) ⟨hx, hb, hml, hown, hts⟩ (t_three_3 l dC dI H.size cB cI cJ cZ x0 tr tr9 tr10 0 (.ref tr0) (.ref tr1) (.ref tr2) (.ref tr3) (.ref tr4) (.ref tr5) (.ref tr6) (.ref tr7) (.ref tr8) (fun _ => 0) (fun _ => 0) 0 (.ref tp) (.ref sm) (.ref tk) .null .null (.ref as) (.ref bs) (.ref cs) (.ref ds) (.ref cr) (.ref cy) 0 0 0 0 (xs 2) (xs 3)) (cwV 3 hts (gd_law (in_V kw_1660 kw_1661 kw_1662 kw_181 kc_X11_three)) rfl rfl rfl (by decide +kernel) ⟨Nat.le_of_ble_eq_true rfl, Nat.le_of_ble_eq_true rfl⟩) ⟨fun a U g mk q => by obtain ⟨q0, q1, qP, qK, qD⟩ := q; exact ⟨q0, q1, qP, va_K.moved (u := U) (U := U.calling g mk a) (Vm.Alike.refl U.vm) qK, qD⟩, va_recv hKc hPc (ci := 12) (q0 := 0) rfl rfl, fun U hU hW => ⟨rfl, by rw [hU], by rw [hU]; exact hPc, va_K.moved hW.alike hKc, hDc.weaken (fun _ _ _ _ => trivial)⟩⟩ rfl rfl hl.1 rfl (lv_room (Nat.le_of_ble_eq_true rfl)) dL_law_700 ⟨Nat.le_of_ble_eq_true rfl, Nat.le_of_ble_eq_true rfl⟩) hS (fun q _ h => hFc q h) hFc (fun r_7 u t_ H1 locs ht hvm hw hB hz1 hk1 hS => ?_)
  obtain ⟨s2, b2⟩ := u
  obtain ⟨hP1, hK1, hD1⟩ := hB
  rw [ht] at hP1
  have hK1 := va_K.moved hvm.symm hK1
  obtain ⟨hP, hD⟩ := va_join (wr := [(mo, .inr (13, moF a (fun _ => 0) (-9223372036854775808)))]) (w1 := [(x0, .inr (12, [.ref tp, .int 0, .ref sm, .ref tk, .int 0, .null, .null, .ref as, .ref bs, .ref cs, .ref ds, .int 0, .ref cr, .ref cy, .int 0, .ref tr])), (tr, .inr (2, [.int 0, .ref tr0, .ref tr1, .ref tr2, .ref tr3, .ref tr4, .ref tr5, .ref tr6, .ref tr7, .ref tr8, .ref tr9, .ref tr10, .int (nI (0 + 1))])), (tr9, .inl (cJ, 2, .inr (.inl s2))), (tr10, .inl (cB, 2, .inl b2))]) hP hD [0, 1, 2, 3] [4] rfl rfl (by decide) (by decide) hk1 hFc hP1 hD1
  have hK := (hK.sub (tys' := [(cS, .object "StreamQueries$Source"), (cO, .object "java/lang/Object")]) [4, 5] rfl).app hK1
  generalize H1 = H at hP hS ⊢
  have hP : va_P (dC, dI) vwCl [(mo, .inr (13, moF a (fun _ => 0) (-9223372036854775808))), (x0, .inr (12, [.ref tp, .int 0, .ref sm, .ref tk, .int 0, .null, .null, .ref as, .ref bs, .ref cs, .ref ds, .int 0, .ref cr, .ref cy, .int 0, .ref tr])), (tr, .inr (2, [.int 0, .ref tr0, .ref tr1, .ref tr2, .ref tr3, .ref tr4, .ref tr5, .ref tr6, .ref tr7, .ref tr8, .ref tr9, .ref tr10, .int (nI (0 + 1))])), (tr9, .inl (cJ, 2, .inr (.inl s2))), (tr10, .inl (cB, 2, .inl b2))] H := hP
  have hD : va_D A [(mo, .inr (13, moF a (fun _ => 0) (-9223372036854775808))), (x0, .inr (12, [.ref tp, .int 0, .ref sm, .ref tk, .int 0, .null, .null, .ref as, .ref bs, .ref cs, .ref ds, .int 0, .ref cr, .ref cy, .int 0, .ref tr])), (tr, .inr (2, [.int 0, .ref tr0, .ref tr1, .ref tr2, .ref tr3, .ref tr4, .ref tr5, .ref tr6, .ref tr7, .ref tr8, .ref tr9, .ref tr10, .int (nI (0 + 1))])), (tr9, .inl (cJ, 2, .inr (.inl s2))), (tr10, .inl (cB, 2, .inl b2))] := hD
  have hK : va_K (dC, dI) vwCl [(cS, .object "StreamQueries$Source"), (cO, .object "java/lang/Object"), (cB, .byte), (cI, .int), (cJ, .long), (cZ, .boolean)] s := hK
  have er_7 : r_7 = thr 3 (xs 2) (xs 3) := hw
  rw [er_7]
  refine lv_aload_n hx hb dL_law_703 rfl (lv_at hl 2 rfl) ?_
  refine lv_aload_n hx hb dL_law_704 rfl (lv_at hl 0 rfl) ?_
  refine lv_iload_n hx hb dL_law_705 rfl (lv_at hl 3 rfl) ?_
  refine lv_iconst (v := 1) hx hb dL_law_706 (by decide) ?_
  refine lv_iadd hx hb dL_law_707 ?_
  refine lv_topi (fun x_8 ex_8 => ?_)
  have ex_8 : x_8 = 1 := ex_8.trans (by decide)
  subst ex_8
  refine va_sld hx hb hX hbl hbA hS (i := 1) (vp_in_nI (n := 1) (N := 6) (by omega) (by omega)) dL_law_708 ?_
  refine lv_topi (fun x_9 ex_9 => ?_)
  have ex_9 : x_9 = xs 1 := ex_9.trans (congrArg xs (nI_clamp (n := 1) (by omega)))
  have ex_9 : x_9 = 3 := ex_9.trans he_1
  rw [ex_9]
  refine lv_aload_n hx hb dL_law_709 rfl (lv_at hl 0 rfl) ?_
  refine lv_iload_n hx hb dL_law_710 rfl (lv_at hl 3 rfl) ?_
  refine lv_iconst (v := 2) hx hb dL_law_711 (by decide) ?_
  refine lv_iadd hx hb dL_law_712 ?_
  refine lv_topi (fun x_10 ex_10 => ?_)
  have ex_10 : x_10 = 2 := ex_10.trans (by decide)
  subst ex_10
  refine va_sld hx hb hX hbl hbA hS (i := 2) (vp_in_nI (n := 2) (N := 6) (by omega) (by omega)) dL_law_713 ?_
  refine lv_topi (fun x_11 ex_11 => ?_)
  have ex_11 : x_11 = xs 2 := ex_11.trans (congrArg xs (nI_clamp (n := 2) (by omega)))
  rw [ex_11]
  refine lv_aload_n hx hb dL_law_714 rfl (lv_at hl 0 rfl) ?_
  refine lv_iload_n hx hb dL_law_715 rfl (lv_at hl 3 rfl) ?_
  refine lv_iconst (v := 3) hx hb dL_law_716 (by decide) ?_
  refine lv_iadd hx hb dL_law_717 ?_
  refine lv_topi (fun x_12 ex_12 => ?_)
  have ex_12 : x_12 = 3 := ex_12.trans (by decide)
  subst ex_12
  refine va_sld hx hb hX hbl hbA hS (i := 3) (vp_in_nI (n := 3) (N := 6) (by omega) (by omega)) dL_law_718 ?_
  refine lv_topi (fun x_13 ex_13 => ?_)
  have ex_13 : x_13 = xs 3 := ex_13.trans (congrArg xs (nI_clamp (n := 3) (by omega)))
  rw [ex_13]
  have hPc := hP.sub (ws' := [(mo, .inr (13, moF a (fun _ => 0) (-9223372036854775808)))]) [0] rfl
  have hDc := hD.sub (ws' := [(mo, .inr (13, moF a (fun _ => 0) (-9223372036854775808)))]) [0] (by decide) rfl
  have hKc := hK.sub (tys' := [(cB, .byte), (cI, .int), (cJ, .long), (cZ, .boolean)]) [2, 3, 4, 5] rfl
  have hFc := va_free (wc := [(mo, .inr (13, moF a (fun _ => 0) (-9223372036854775808)))]) hD hS hA [0] rfl
  refine va_calli (va_runV (As := [.int 3, .int (xs 2), .int (xs 3)]) (rest := [.int (thr 3 (xs 2) (xs 3))]) ⟨hx, hb, hml, hown, hts⟩ (t_mthree_3 l dC dI H.size cB cI cJ cZ mo a (fun _ => 0) (-9223372036854775808) (xs 2) (xs 3)) (cwV 3 hts (gd_law (in_V kw_2500 kw_2501 kw_2502 kw_191 kc_X12_three)) rfl rfl rfl (by decide +kernel) ⟨Nat.le_of_ble_eq_true rfl, Nat.le_of_ble_eq_true rfl⟩) ⟨fun a U g mk q => by obtain ⟨q0, q1, qP, qK, qD⟩ := q; exact ⟨q0, q1, qP, va_K.moved (u := U) (U := U.calling g mk a) (Vm.Alike.refl U.vm) qK, qD⟩, va_recv hKc hPc (ci := 13) (q0 := 0) rfl rfl, fun U hU hW => ⟨rfl, by rw [hU], by rw [hU]; exact hPc, va_K.moved hW.alike hKc, hDc.weaken (fun _ _ _ _ => trivial)⟩⟩ rfl rfl hl.1 rfl (lv_room (Nat.le_of_ble_eq_true rfl)) dL_law_719 ⟨Nat.le_of_ble_eq_true rfl, Nat.le_of_ble_eq_true rfl⟩) hS (fun q _ h => hFc q h) hFc (fun r_14 u t_ H1 locs ht hvm hw hB hz1 hk1 hS => ?_)
  obtain ⟨hP1, hK1, hD1⟩ := hB
  rw [ht] at hP1
  have hK1 := va_K.moved hvm.symm hK1
  obtain ⟨hP, hD⟩ := va_join (wr := [(x0, .inr (12, [.ref tp, .int 0, .ref sm, .ref tk, .int 0, .null, .null, .ref as, .ref bs, .ref cs, .ref ds, .int 0, .ref cr, .ref cy, .int 0, .ref tr])), (tr, .inr (2, [.int 0, .ref tr0, .ref tr1, .ref tr2, .ref tr3, .ref tr4, .ref tr5, .ref tr6, .ref tr7, .ref tr8, .ref tr9, .ref tr10, .int (nI (0 + 1))])), (tr9, .inl (cJ, 2, .inr (.inl s2))), (tr10, .inl (cB, 2, .inl b2))]) (w1 := [(mo, .inr (13, moF a (fun _ => 0) (-9223372036854775808)))]) hP hD [0] [1, 2, 3, 4] rfl rfl (by decide) (by decide) hk1 hFc hP1 hD1
  have hK := (hK.sub (tys' := [(cS, .object "StreamQueries$Source"), (cO, .object "java/lang/Object")]) [0, 1] rfl).app hK1
  generalize H1 = H at hP hS ⊢
  have hP : va_P (dC, dI) vwCl [(x0, .inr (12, [.ref tp, .int 0, .ref sm, .ref tk, .int 0, .null, .null, .ref as, .ref bs, .ref cs, .ref ds, .int 0, .ref cr, .ref cy, .int 0, .ref tr])), (tr, .inr (2, [.int 0, .ref tr0, .ref tr1, .ref tr2, .ref tr3, .ref tr4, .ref tr5, .ref tr6, .ref tr7, .ref tr8, .ref tr9, .ref tr10, .int (nI (0 + 1))])), (tr9, .inl (cJ, 2, .inr (.inl s2))), (tr10, .inl (cB, 2, .inl b2)), (mo, .inr (13, moF a (fun _ => 0) (-9223372036854775808)))] H := hP
  have hD : va_D A [(x0, .inr (12, [.ref tp, .int 0, .ref sm, .ref tk, .int 0, .null, .null, .ref as, .ref bs, .ref cs, .ref ds, .int 0, .ref cr, .ref cy, .int 0, .ref tr])), (tr, .inr (2, [.int 0, .ref tr0, .ref tr1, .ref tr2, .ref tr3, .ref tr4, .ref tr5, .ref tr6, .ref tr7, .ref tr8, .ref tr9, .ref tr10, .int (nI (0 + 1))])), (tr9, .inl (cJ, 2, .inr (.inl s2))), (tr10, .inl (cB, 2, .inl b2)), (mo, .inr (13, moF a (fun _ => 0) (-9223372036854775808)))] := hD
  have hK : va_K (dC, dI) vwCl [(cS, .object "StreamQueries$Source"), (cO, .object "java/lang/Object"), (cB, .byte), (cI, .int), (cJ, .long), (cZ, .boolean)] s := hK
  have er_14 : r_14 = thr 3 (xs 2) (xs 3) := hw
  rw [er_14]
  refine lv_icmp_eq (tgt := 750) hx hb dL_law_722 (by decide) (fun c_15 => ?_) (fun c_15 => ?_)
  · skip
    exact law_tail C0 hA hbA hAf (Nat.le_of_ble_eq_true rfl) (Nat.le_of_ble_eq_true rfl) hS (lv_sub hl [0, 1, 2, 3] rfl)
  · skip
    exact absurd rfl c_15
set_option maxHeartbeats 4000000 in
set_option maxRecDepth 100000 in
theorem lc_18_4 {p : Program} {l : Launch} {e : Env} {s : State} {m : MethodId} {below : List Frame} {meth : Method} {c : Code} {dC : Nat → ClassId} {dI : Nat → Nat → Nat} {cB cI cJ cZ cS cO : ClassId} {b : Nat} {xs : Nat → Int32} {K V : Nat → Nat} {fz : Value} {A : Nat → Prop} {as as0 as1 as2 as3 bs bs0 bs1 bs2 bs3 cr cs cs0 cs1 cs2 cs3 cy ds ds0 ds1 ds2 ds3 mo sm sm0 sm1 sm2 sm3 sm4 sm5 tk tk0 tk1 tk2 tk3 tk4 tp tr tr0 tr1 tr10 tr2 tr3 tr4 tr5 tr6 tr7 tr8 tr9 x0 : Nat} {a : Nat → Nat} (C0 : lw_At p s m meth c b 6 xs) (hZ : zE K V fz A s) (hA : ∀ q : Nat, s.heap.size ≤ q → A q) (hbA : ¬ A b) (hAf : ∀ q : Nat, A q → s.heap.size ≤ q) (he_1 : xs 1 = 4) (hK : va_K (dC, dI) vwCl [(cB, .byte), (cI, .int), (cJ, .long), (cZ, .boolean), (cS, .object "StreamQueries$Source"), (cO, .object "java/lang/Object")] s) {H : Heap} {locs : List Loc} {ls : Array Slot} (hP : va_P (dC, dI) vwCl [(x0, .inr (12, [.ref tp, .int 0, .ref sm, .ref tk, .int 0, .null, .null, .ref as, .ref bs, .ref cs, .ref ds, .int 0, .ref cr, .ref cy, .int 0, .ref tr])), (tr, .inr (2, [.int 0, .ref tr0, .ref tr1, .ref tr2, .ref tr3, .ref tr4, .ref tr5, .ref tr6, .ref tr7, .ref tr8, .ref tr9, .ref tr10, .int 0])), (tr9, .inl (cJ, 2, .inr (.inl (fun _ => 0)))), (tr10, .inl (cB, 2, .inl (fun _ => 0))), (mo, .inr (13, moF a (fun _ => 0) (-9223372036854775808)))] H) (hD : va_D A [(x0, .inr (12, [.ref tp, .int 0, .ref sm, .ref tk, .int 0, .null, .null, .ref as, .ref bs, .ref cs, .ref ds, .int 0, .ref cr, .ref cy, .int 0, .ref tr])), (tr, .inr (2, [.int 0, .ref tr0, .ref tr1, .ref tr2, .ref tr3, .ref tr4, .ref tr5, .ref tr6, .ref tr7, .ref tr8, .ref tr9, .ref tr10, .int 0])), (tr9, .inl (cJ, 2, .inr (.inl (fun _ => 0)))), (tr10, .inl (cB, 2, .inl (fun _ => 0))), (mo, .inr (13, moF a (fun _ => 0) (-9223372036854775808)))]) (hS : va_S A s.heap H locs) (hl : lv_has ls 4 [(0, .ref b), (1, .ref x0), (2, .ref mo), (3, .int 0)]) : W p l e room_1 s m #[Value.ref b] below meth c H locs 127 886803 (lw_Z below #[Value.ref b] s) (F0 m 684 ls []) := by
  obtain ⟨hx, hb, hr, hml, hown, hts, hX, hbl, hlocks, hgv⟩ := id C0
  refine lv_aload_n hx hb dL_law_684 rfl (lv_at hl 1 rfl) ?_
  refine lv_aload_n hx hb dL_law_685 rfl (lv_at hl 0 rfl) ?_
  refine lv_iload_n hx hb dL_law_686 rfl (lv_at hl 3 rfl) ?_
  refine lv_iconst (v := 1) hx hb dL_law_687 (by decide) ?_
  refine lv_iadd hx hb dL_law_688 ?_
  refine lv_topi (fun x_1 ex_1 => ?_)
  have ex_1 : x_1 = 1 := ex_1.trans (by decide)
  subst ex_1
  refine va_sld hx hb hX hbl hbA hS (i := 1) (vp_in_nI (n := 1) (N := 6) (by omega) (by omega)) dL_law_689 ?_
  refine lv_topi (fun x_2 ex_2 => ?_)
  have ex_2 : x_2 = xs 1 := ex_2.trans (congrArg xs (nI_clamp (n := 1) (by omega)))
  have ex_2 : x_2 = 4 := ex_2.trans he_1
  rw [ex_2]
  refine lv_aload_n hx hb dL_law_690 rfl (lv_at hl 0 rfl) ?_
  refine lv_iload_n hx hb dL_law_691 rfl (lv_at hl 3 rfl) ?_
  refine lv_iconst (v := 2) hx hb dL_law_692 (by decide) ?_
  refine lv_iadd hx hb dL_law_693 ?_
  refine lv_topi (fun x_3 ex_3 => ?_)
  have ex_3 : x_3 = 2 := ex_3.trans (by decide)
  subst ex_3
  refine va_sld hx hb hX hbl hbA hS (i := 2) (vp_in_nI (n := 2) (N := 6) (by omega) (by omega)) dL_law_694 ?_
  refine lv_topi (fun x_4 ex_4 => ?_)
  have ex_4 : x_4 = xs 2 := ex_4.trans (congrArg xs (nI_clamp (n := 2) (by omega)))
  rw [ex_4]
  refine lv_aload_n hx hb dL_law_695 rfl (lv_at hl 0 rfl) ?_
  refine lv_iload_n hx hb dL_law_696 rfl (lv_at hl 3 rfl) ?_
  refine lv_iconst (v := 3) hx hb dL_law_697 (by decide) ?_
  refine lv_iadd hx hb dL_law_698 ?_
  refine lv_topi (fun x_5 ex_5 => ?_)
  have ex_5 : x_5 = 3 := ex_5.trans (by decide)
  subst ex_5
  refine va_sld hx hb hX hbl hbA hS (i := 3) (vp_in_nI (n := 3) (N := 6) (by omega) (by omega)) dL_law_699 ?_
  refine lv_topi (fun x_6 ex_6 => ?_)
  have ex_6 : x_6 = xs 3 := ex_6.trans (congrArg xs (nI_clamp (n := 3) (by omega)))
  rw [ex_6]
  have hPc := hP.sub (ws' := [(x0, .inr (12, [.ref tp, .int 0, .ref sm, .ref tk, .int 0, .null, .null, .ref as, .ref bs, .ref cs, .ref ds, .int 0, .ref cr, .ref cy, .int 0, .ref tr])), (tr, .inr (2, [.int 0, .ref tr0, .ref tr1, .ref tr2, .ref tr3, .ref tr4, .ref tr5, .ref tr6, .ref tr7, .ref tr8, .ref tr9, .ref tr10, .int 0])), (tr9, .inl (cJ, 2, .inr (.inl (fun _ => 0)))), (tr10, .inl (cB, 2, .inl (fun _ => 0)))]) [0, 1, 2, 3] rfl
  have hDc := hD.sub (ws' := [(x0, .inr (12, [.ref tp, .int 0, .ref sm, .ref tk, .int 0, .null, .null, .ref as, .ref bs, .ref cs, .ref ds, .int 0, .ref cr, .ref cy, .int 0, .ref tr])), (tr, .inr (2, [.int 0, .ref tr0, .ref tr1, .ref tr2, .ref tr3, .ref tr4, .ref tr5, .ref tr6, .ref tr7, .ref tr8, .ref tr9, .ref tr10, .int 0])), (tr9, .inl (cJ, 2, .inr (.inl (fun _ => 0)))), (tr10, .inl (cB, 2, .inl (fun _ => 0)))]) [0, 1, 2, 3] (by decide) rfl
  have hKc := hK.sub (tys' := [(cB, .byte), (cI, .int), (cJ, .long), (cZ, .boolean)]) [0, 1, 2, 3] rfl
  have hFc := va_free (wc := [(x0, .inr (12, [.ref tp, .int 0, .ref sm, .ref tk, .int 0, .null, .null, .ref as, .ref bs, .ref cs, .ref ds, .int 0, .ref cr, .ref cy, .int 0, .ref tr])), (tr, .inr (2, [.int 0, .ref tr0, .ref tr1, .ref tr2, .ref tr3, .ref tr4, .ref tr5, .ref tr6, .ref tr7, .ref tr8, .ref tr9, .ref tr10, .int 0])), (tr9, .inl (cJ, 2, .inr (.inl (fun _ => 0)))), (tr10, .inl (cB, 2, .inl (fun _ => 0)))]) hD hS hA [0, 1, 2, 3] rfl
  refine va_calli (va_runV (As := [.int 4, .int (xs 2), .int (xs 3)]) (rest := []) ⟨hx, hb, hml, hown, hts⟩ (t_three_4 l dC dI H.size cB cI cJ cZ x0 tr tr9 tr10 0 (.ref tr0) (.ref tr1) (.ref tr2) (.ref tr3) (.ref tr4) (.ref tr5) (.ref tr6) (.ref tr7) (.ref tr8) (fun _ => 0) (fun _ => 0) 0 (.ref tp) (.ref sm) (.ref tk) .null .null (.ref as) (.ref bs) (.ref cs) (.ref ds) (.ref cr) (.ref cy) 0 0 0 0 (xs 2) (xs 3)) (cwV 3 hts (gd_law (in_V kw_1660 kw_1661 kw_1662 kw_181 kc_X11_three)) rfl rfl rfl (by decide +kernel) ⟨Nat.le_of_ble_eq_true rfl, Nat.le_of_ble_eq_true rfl⟩) ⟨fun a U g mk q => by obtain ⟨q0, q1, qP, qK, qD⟩ := q; exact ⟨q0, q1, qP, va_K.moved (u := U) (U := U.calling g mk a) (Vm.Alike.refl U.vm) qK, qD⟩, va_recv hKc hPc (ci := 12) (q0 := 0) rfl rfl, fun U hU hW => ⟨rfl, by rw [hU], by rw [hU]; exact hPc, va_K.moved hW.alike hKc, hDc.weaken (fun _ _ _ _ => trivial)⟩⟩ rfl rfl hl.1 rfl (lv_room (Nat.le_of_ble_eq_true rfl)) dL_law_700 ⟨Nat.le_of_ble_eq_true rfl, Nat.le_of_ble_eq_true rfl⟩) hS (fun q _ h => hFc q h) hFc (fun r_7 u t_ H1 locs ht hvm hw hB hz1 hk1 hS => ?_)
  obtain ⟨s2, b2⟩ := u
  obtain ⟨hP1, hK1, hD1⟩ := hB
  rw [ht] at hP1
  have hK1 := va_K.moved hvm.symm hK1
  obtain ⟨hP, hD⟩ := va_join (wr := [(mo, .inr (13, moF a (fun _ => 0) (-9223372036854775808)))]) (w1 := [(x0, .inr (12, [.ref tp, .int 0, .ref sm, .ref tk, .int 0, .null, .null, .ref as, .ref bs, .ref cs, .ref ds, .int 0, .ref cr, .ref cy, .int 0, .ref tr])), (tr, .inr (2, [.int 0, .ref tr0, .ref tr1, .ref tr2, .ref tr3, .ref tr4, .ref tr5, .ref tr6, .ref tr7, .ref tr8, .ref tr9, .ref tr10, .int (nI (0 + 1))])), (tr9, .inl (cJ, 2, .inr (.inl s2))), (tr10, .inl (cB, 2, .inl b2))]) hP hD [0, 1, 2, 3] [4] rfl rfl (by decide) (by decide) hk1 hFc hP1 hD1
  have hK := (hK.sub (tys' := [(cS, .object "StreamQueries$Source"), (cO, .object "java/lang/Object")]) [4, 5] rfl).app hK1
  generalize H1 = H at hP hS ⊢
  have hP : va_P (dC, dI) vwCl [(mo, .inr (13, moF a (fun _ => 0) (-9223372036854775808))), (x0, .inr (12, [.ref tp, .int 0, .ref sm, .ref tk, .int 0, .null, .null, .ref as, .ref bs, .ref cs, .ref ds, .int 0, .ref cr, .ref cy, .int 0, .ref tr])), (tr, .inr (2, [.int 0, .ref tr0, .ref tr1, .ref tr2, .ref tr3, .ref tr4, .ref tr5, .ref tr6, .ref tr7, .ref tr8, .ref tr9, .ref tr10, .int (nI (0 + 1))])), (tr9, .inl (cJ, 2, .inr (.inl s2))), (tr10, .inl (cB, 2, .inl b2))] H := hP
  have hD : va_D A [(mo, .inr (13, moF a (fun _ => 0) (-9223372036854775808))), (x0, .inr (12, [.ref tp, .int 0, .ref sm, .ref tk, .int 0, .null, .null, .ref as, .ref bs, .ref cs, .ref ds, .int 0, .ref cr, .ref cy, .int 0, .ref tr])), (tr, .inr (2, [.int 0, .ref tr0, .ref tr1, .ref tr2, .ref tr3, .ref tr4, .ref tr5, .ref tr6, .ref tr7, .ref tr8, .ref tr9, .ref tr10, .int (nI (0 + 1))])), (tr9, .inl (cJ, 2, .inr (.inl s2))), (tr10, .inl (cB, 2, .inl b2))] := hD
  have hK : va_K (dC, dI) vwCl [(cS, .object "StreamQueries$Source"), (cO, .object "java/lang/Object"), (cB, .byte), (cI, .int), (cJ, .long), (cZ, .boolean)] s := hK
  have er_7 : r_7 = thr 4 (xs 2) (xs 3) := hw
  rw [er_7]
  refine lv_aload_n hx hb dL_law_703 rfl (lv_at hl 2 rfl) ?_
  refine lv_aload_n hx hb dL_law_704 rfl (lv_at hl 0 rfl) ?_
  refine lv_iload_n hx hb dL_law_705 rfl (lv_at hl 3 rfl) ?_
  refine lv_iconst (v := 1) hx hb dL_law_706 (by decide) ?_
  refine lv_iadd hx hb dL_law_707 ?_
  refine lv_topi (fun x_8 ex_8 => ?_)
  have ex_8 : x_8 = 1 := ex_8.trans (by decide)
  subst ex_8
  refine va_sld hx hb hX hbl hbA hS (i := 1) (vp_in_nI (n := 1) (N := 6) (by omega) (by omega)) dL_law_708 ?_
  refine lv_topi (fun x_9 ex_9 => ?_)
  have ex_9 : x_9 = xs 1 := ex_9.trans (congrArg xs (nI_clamp (n := 1) (by omega)))
  have ex_9 : x_9 = 4 := ex_9.trans he_1
  rw [ex_9]
  refine lv_aload_n hx hb dL_law_709 rfl (lv_at hl 0 rfl) ?_
  refine lv_iload_n hx hb dL_law_710 rfl (lv_at hl 3 rfl) ?_
  refine lv_iconst (v := 2) hx hb dL_law_711 (by decide) ?_
  refine lv_iadd hx hb dL_law_712 ?_
  refine lv_topi (fun x_10 ex_10 => ?_)
  have ex_10 : x_10 = 2 := ex_10.trans (by decide)
  subst ex_10
  refine va_sld hx hb hX hbl hbA hS (i := 2) (vp_in_nI (n := 2) (N := 6) (by omega) (by omega)) dL_law_713 ?_
  refine lv_topi (fun x_11 ex_11 => ?_)
  have ex_11 : x_11 = xs 2 := ex_11.trans (congrArg xs (nI_clamp (n := 2) (by omega)))
  rw [ex_11]
  refine lv_aload_n hx hb dL_law_714 rfl (lv_at hl 0 rfl) ?_
  refine lv_iload_n hx hb dL_law_715 rfl (lv_at hl 3 rfl) ?_
  refine lv_iconst (v := 3) hx hb dL_law_716 (by decide) ?_
  refine lv_iadd hx hb dL_law_717 ?_
  refine lv_topi (fun x_12 ex_12 => ?_)
  have ex_12 : x_12 = 3 := ex_12.trans (by decide)
  subst ex_12
  refine va_sld hx hb hX hbl hbA hS (i := 3) (vp_in_nI (n := 3) (N := 6) (by omega) (by omega)) dL_law_718 ?_
  refine lv_topi (fun x_13 ex_13 => ?_)
  have ex_13 : x_13 = xs 3 := ex_13.trans (congrArg xs (nI_clamp (n := 3) (by omega)))
  rw [ex_13]
  have hPc := hP.sub (ws' := [(mo, .inr (13, moF a (fun _ => 0) (-9223372036854775808)))]) [0] rfl
  have hDc := hD.sub (ws' := [(mo, .inr (13, moF a (fun _ => 0) (-9223372036854775808)))]) [0] (by decide) rfl
  have hKc := hK.sub (tys' := [(cB, .byte), (cI, .int), (cJ, .long), (cZ, .boolean)]) [2, 3, 4, 5] rfl
  have hFc := va_free (wc := [(mo, .inr (13, moF a (fun _ => 0) (-9223372036854775808)))]) hD hS hA [0] rfl
  refine va_calli (va_runV (As := [.int 4, .int (xs 2), .int (xs 3)]) (rest := [.int (thr 4 (xs 2) (xs 3))]) ⟨hx, hb, hml, hown, hts⟩ (t_mthree_4 l dC dI H.size cB cI cJ cZ mo a (fun _ => 0) (-9223372036854775808) (xs 2) (xs 3)) (cwV 3 hts (gd_law (in_V kw_2500 kw_2501 kw_2502 kw_191 kc_X12_three)) rfl rfl rfl (by decide +kernel) ⟨Nat.le_of_ble_eq_true rfl, Nat.le_of_ble_eq_true rfl⟩) ⟨fun a U g mk q => by obtain ⟨q0, q1, qP, qK, qD⟩ := q; exact ⟨q0, q1, qP, va_K.moved (u := U) (U := U.calling g mk a) (Vm.Alike.refl U.vm) qK, qD⟩, va_recv hKc hPc (ci := 13) (q0 := 0) rfl rfl, fun U hU hW => ⟨rfl, by rw [hU], by rw [hU]; exact hPc, va_K.moved hW.alike hKc, hDc.weaken (fun _ _ _ _ => trivial)⟩⟩ rfl rfl hl.1 rfl (lv_room (Nat.le_of_ble_eq_true rfl)) dL_law_719 ⟨Nat.le_of_ble_eq_true rfl, Nat.le_of_ble_eq_true rfl⟩) hS (fun q _ h => hFc q h) hFc (fun r_14 u t_ H1 locs ht hvm hw hB hz1 hk1 hS => ?_)
  obtain ⟨hP1, hK1, hD1⟩ := hB
  rw [ht] at hP1
  have hK1 := va_K.moved hvm.symm hK1
  obtain ⟨hP, hD⟩ := va_join (wr := [(x0, .inr (12, [.ref tp, .int 0, .ref sm, .ref tk, .int 0, .null, .null, .ref as, .ref bs, .ref cs, .ref ds, .int 0, .ref cr, .ref cy, .int 0, .ref tr])), (tr, .inr (2, [.int 0, .ref tr0, .ref tr1, .ref tr2, .ref tr3, .ref tr4, .ref tr5, .ref tr6, .ref tr7, .ref tr8, .ref tr9, .ref tr10, .int (nI (0 + 1))])), (tr9, .inl (cJ, 2, .inr (.inl s2))), (tr10, .inl (cB, 2, .inl b2))]) (w1 := [(mo, .inr (13, moF a (fun _ => 0) (-9223372036854775808)))]) hP hD [0] [1, 2, 3, 4] rfl rfl (by decide) (by decide) hk1 hFc hP1 hD1
  have hK := (hK.sub (tys' := [(cS, .object "StreamQueries$Source"), (cO, .object "java/lang/Object")]) [0, 1] rfl).app hK1
  generalize H1 = H at hP hS ⊢
  have hP : va_P (dC, dI) vwCl [(x0, .inr (12, [.ref tp, .int 0, .ref sm, .ref tk, .int 0, .null, .null, .ref as, .ref bs, .ref cs, .ref ds, .int 0, .ref cr, .ref cy, .int 0, .ref tr])), (tr, .inr (2, [.int 0, .ref tr0, .ref tr1, .ref tr2, .ref tr3, .ref tr4, .ref tr5, .ref tr6, .ref tr7, .ref tr8, .ref tr9, .ref tr10, .int (nI (0 + 1))])), (tr9, .inl (cJ, 2, .inr (.inl s2))), (tr10, .inl (cB, 2, .inl b2)), (mo, .inr (13, moF a (fun _ => 0) (-9223372036854775808)))] H := hP
  have hD : va_D A [(x0, .inr (12, [.ref tp, .int 0, .ref sm, .ref tk, .int 0, .null, .null, .ref as, .ref bs, .ref cs, .ref ds, .int 0, .ref cr, .ref cy, .int 0, .ref tr])), (tr, .inr (2, [.int 0, .ref tr0, .ref tr1, .ref tr2, .ref tr3, .ref tr4, .ref tr5, .ref tr6, .ref tr7, .ref tr8, .ref tr9, .ref tr10, .int (nI (0 + 1))])), (tr9, .inl (cJ, 2, .inr (.inl s2))), (tr10, .inl (cB, 2, .inl b2)), (mo, .inr (13, moF a (fun _ => 0) (-9223372036854775808)))] := hD
  have hK : va_K (dC, dI) vwCl [(cS, .object "StreamQueries$Source"), (cO, .object "java/lang/Object"), (cB, .byte), (cI, .int), (cJ, .long), (cZ, .boolean)] s := hK
  have er_14 : r_14 = thr 4 (xs 2) (xs 3) := hw
  rw [er_14]
  refine lv_icmp_eq (tgt := 750) hx hb dL_law_722 (by decide) (fun c_15 => ?_) (fun c_15 => ?_)
  · skip
    exact law_tail C0 hA hbA hAf (Nat.le_of_ble_eq_true rfl) (Nat.le_of_ble_eq_true rfl) hS (lv_sub hl [0, 1, 2, 3] rfl)
  · skip
    exact absurd rfl c_15
set_option maxHeartbeats 4000000 in
set_option maxRecDepth 100000 in
theorem lc_18_5 {p : Program} {l : Launch} {e : Env} {s : State} {m : MethodId} {below : List Frame} {meth : Method} {c : Code} {dC : Nat → ClassId} {dI : Nat → Nat → Nat} {cB cI cJ cZ cS cO : ClassId} {b : Nat} {xs : Nat → Int32} {K V : Nat → Nat} {fz : Value} {A : Nat → Prop} {as as0 as1 as2 as3 bs bs0 bs1 bs2 bs3 cr cs cs0 cs1 cs2 cs3 cy ds ds0 ds1 ds2 ds3 mo sm sm0 sm1 sm2 sm3 sm4 sm5 tk tk0 tk1 tk2 tk3 tk4 tp tr tr0 tr1 tr10 tr2 tr3 tr4 tr5 tr6 tr7 tr8 tr9 x0 : Nat} {a : Nat → Nat} (C0 : lw_At p s m meth c b 6 xs) (hZ : zE K V fz A s) (hA : ∀ q : Nat, s.heap.size ≤ q → A q) (hbA : ¬ A b) (hAf : ∀ q : Nat, A q → s.heap.size ≤ q) (he_1 : xs 1 = 5) (hK : va_K (dC, dI) vwCl [(cB, .byte), (cI, .int), (cJ, .long), (cZ, .boolean), (cS, .object "StreamQueries$Source"), (cO, .object "java/lang/Object")] s) {H : Heap} {locs : List Loc} {ls : Array Slot} (hP : va_P (dC, dI) vwCl [(x0, .inr (12, [.ref tp, .int 0, .ref sm, .ref tk, .int 0, .null, .null, .ref as, .ref bs, .ref cs, .ref ds, .int 0, .ref cr, .ref cy, .int 0, .ref tr])), (tr, .inr (2, [.int 0, .ref tr0, .ref tr1, .ref tr2, .ref tr3, .ref tr4, .ref tr5, .ref tr6, .ref tr7, .ref tr8, .ref tr9, .ref tr10, .int 0])), (tr9, .inl (cJ, 2, .inr (.inl (fun _ => 0)))), (tr10, .inl (cB, 2, .inl (fun _ => 0))), (mo, .inr (13, moF a (fun _ => 0) (-9223372036854775808)))] H) (hD : va_D A [(x0, .inr (12, [.ref tp, .int 0, .ref sm, .ref tk, .int 0, .null, .null, .ref as, .ref bs, .ref cs, .ref ds, .int 0, .ref cr, .ref cy, .int 0, .ref tr])), (tr, .inr (2, [.int 0, .ref tr0, .ref tr1, .ref tr2, .ref tr3, .ref tr4, .ref tr5, .ref tr6, .ref tr7, .ref tr8, .ref tr9, .ref tr10, .int 0])), (tr9, .inl (cJ, 2, .inr (.inl (fun _ => 0)))), (tr10, .inl (cB, 2, .inl (fun _ => 0))), (mo, .inr (13, moF a (fun _ => 0) (-9223372036854775808)))]) (hS : va_S A s.heap H locs) (hl : lv_has ls 4 [(0, .ref b), (1, .ref x0), (2, .ref mo), (3, .int 0)]) : W p l e room_1 s m #[Value.ref b] below meth c H locs 127 886803 (lw_Z below #[Value.ref b] s) (F0 m 684 ls []) := by
  obtain ⟨hx, hb, hr, hml, hown, hts, hX, hbl, hlocks, hgv⟩ := id C0
  refine lv_aload_n hx hb dL_law_684 rfl (lv_at hl 1 rfl) ?_
  refine lv_aload_n hx hb dL_law_685 rfl (lv_at hl 0 rfl) ?_
  refine lv_iload_n hx hb dL_law_686 rfl (lv_at hl 3 rfl) ?_
  refine lv_iconst (v := 1) hx hb dL_law_687 (by decide) ?_
  refine lv_iadd hx hb dL_law_688 ?_
  refine lv_topi (fun x_1 ex_1 => ?_)
  have ex_1 : x_1 = 1 := ex_1.trans (by decide)
  subst ex_1
  refine va_sld hx hb hX hbl hbA hS (i := 1) (vp_in_nI (n := 1) (N := 6) (by omega) (by omega)) dL_law_689 ?_
  refine lv_topi (fun x_2 ex_2 => ?_)
  have ex_2 : x_2 = xs 1 := ex_2.trans (congrArg xs (nI_clamp (n := 1) (by omega)))
  have ex_2 : x_2 = 5 := ex_2.trans he_1
  rw [ex_2]
  refine lv_aload_n hx hb dL_law_690 rfl (lv_at hl 0 rfl) ?_
  refine lv_iload_n hx hb dL_law_691 rfl (lv_at hl 3 rfl) ?_
  refine lv_iconst (v := 2) hx hb dL_law_692 (by decide) ?_
  refine lv_iadd hx hb dL_law_693 ?_
  refine lv_topi (fun x_3 ex_3 => ?_)
  have ex_3 : x_3 = 2 := ex_3.trans (by decide)
  subst ex_3
  refine va_sld hx hb hX hbl hbA hS (i := 2) (vp_in_nI (n := 2) (N := 6) (by omega) (by omega)) dL_law_694 ?_
  refine lv_topi (fun x_4 ex_4 => ?_)
  have ex_4 : x_4 = xs 2 := ex_4.trans (congrArg xs (nI_clamp (n := 2) (by omega)))
  rw [ex_4]
  refine lv_aload_n hx hb dL_law_695 rfl (lv_at hl 0 rfl) ?_
  refine lv_iload_n hx hb dL_law_696 rfl (lv_at hl 3 rfl) ?_
  refine lv_iconst (v := 3) hx hb dL_law_697 (by decide) ?_
  refine lv_iadd hx hb dL_law_698 ?_
  refine lv_topi (fun x_5 ex_5 => ?_)
  have ex_5 : x_5 = 3 := ex_5.trans (by decide)
  subst ex_5
  refine va_sld hx hb hX hbl hbA hS (i := 3) (vp_in_nI (n := 3) (N := 6) (by omega) (by omega)) dL_law_699 ?_
  refine lv_topi (fun x_6 ex_6 => ?_)
  have ex_6 : x_6 = xs 3 := ex_6.trans (congrArg xs (nI_clamp (n := 3) (by omega)))
  rw [ex_6]
  have hPc := hP.sub (ws' := [(x0, .inr (12, [.ref tp, .int 0, .ref sm, .ref tk, .int 0, .null, .null, .ref as, .ref bs, .ref cs, .ref ds, .int 0, .ref cr, .ref cy, .int 0, .ref tr])), (tr, .inr (2, [.int 0, .ref tr0, .ref tr1, .ref tr2, .ref tr3, .ref tr4, .ref tr5, .ref tr6, .ref tr7, .ref tr8, .ref tr9, .ref tr10, .int 0])), (tr9, .inl (cJ, 2, .inr (.inl (fun _ => 0)))), (tr10, .inl (cB, 2, .inl (fun _ => 0)))]) [0, 1, 2, 3] rfl
  have hDc := hD.sub (ws' := [(x0, .inr (12, [.ref tp, .int 0, .ref sm, .ref tk, .int 0, .null, .null, .ref as, .ref bs, .ref cs, .ref ds, .int 0, .ref cr, .ref cy, .int 0, .ref tr])), (tr, .inr (2, [.int 0, .ref tr0, .ref tr1, .ref tr2, .ref tr3, .ref tr4, .ref tr5, .ref tr6, .ref tr7, .ref tr8, .ref tr9, .ref tr10, .int 0])), (tr9, .inl (cJ, 2, .inr (.inl (fun _ => 0)))), (tr10, .inl (cB, 2, .inl (fun _ => 0)))]) [0, 1, 2, 3] (by decide) rfl
  have hKc := hK.sub (tys' := [(cB, .byte), (cI, .int), (cJ, .long), (cZ, .boolean)]) [0, 1, 2, 3] rfl
  have hFc := va_free (wc := [(x0, .inr (12, [.ref tp, .int 0, .ref sm, .ref tk, .int 0, .null, .null, .ref as, .ref bs, .ref cs, .ref ds, .int 0, .ref cr, .ref cy, .int 0, .ref tr])), (tr, .inr (2, [.int 0, .ref tr0, .ref tr1, .ref tr2, .ref tr3, .ref tr4, .ref tr5, .ref tr6, .ref tr7, .ref tr8, .ref tr9, .ref tr10, .int 0])), (tr9, .inl (cJ, 2, .inr (.inl (fun _ => 0)))), (tr10, .inl (cB, 2, .inl (fun _ => 0)))]) hD hS hA [0, 1, 2, 3] rfl
  refine va_calli (va_runV (As := [.int 5, .int (xs 2), .int (xs 3)]) (rest := []) ⟨hx, hb, hml, hown, hts⟩ (t_three_5 l dC dI H.size cB cI cJ cZ x0 tr tr9 tr10 0 (.ref tr0) (.ref tr1) (.ref tr2) (.ref tr3) (.ref tr4) (.ref tr5) (.ref tr6) (.ref tr7) (.ref tr8) (fun _ => 0) (fun _ => 0) 0 (.ref tp) (.ref sm) (.ref tk) .null .null (.ref as) (.ref bs) (.ref cs) (.ref ds) (.ref cr) (.ref cy) 0 0 0 0 (xs 2) (xs 3)) (cwV 3 hts (gd_law (in_V kw_1660 kw_1661 kw_1662 kw_181 kc_X11_three)) rfl rfl rfl (by decide +kernel) ⟨Nat.le_of_ble_eq_true rfl, Nat.le_of_ble_eq_true rfl⟩) ⟨fun a U g mk q => by obtain ⟨q0, q1, qP, qK, qD⟩ := q; exact ⟨q0, q1, qP, va_K.moved (u := U) (U := U.calling g mk a) (Vm.Alike.refl U.vm) qK, qD⟩, va_recv hKc hPc (ci := 12) (q0 := 0) rfl rfl, fun U hU hW => ⟨rfl, by rw [hU], by rw [hU]; exact hPc, va_K.moved hW.alike hKc, hDc.weaken (fun _ _ _ _ => trivial)⟩⟩ rfl rfl hl.1 rfl (lv_room (Nat.le_of_ble_eq_true rfl)) dL_law_700 ⟨Nat.le_of_ble_eq_true rfl, Nat.le_of_ble_eq_true rfl⟩) hS (fun q _ h => hFc q h) hFc (fun r_7 u t_ H1 locs ht hvm hw hB hz1 hk1 hS => ?_)
  obtain ⟨s2, b2⟩ := u
  obtain ⟨hP1, hK1, hD1⟩ := hB
  rw [ht] at hP1
  have hK1 := va_K.moved hvm.symm hK1
  obtain ⟨hP, hD⟩ := va_join (wr := [(mo, .inr (13, moF a (fun _ => 0) (-9223372036854775808)))]) (w1 := [(x0, .inr (12, [.ref tp, .int 0, .ref sm, .ref tk, .int 0, .null, .null, .ref as, .ref bs, .ref cs, .ref ds, .int 0, .ref cr, .ref cy, .int 0, .ref tr])), (tr, .inr (2, [.int 0, .ref tr0, .ref tr1, .ref tr2, .ref tr3, .ref tr4, .ref tr5, .ref tr6, .ref tr7, .ref tr8, .ref tr9, .ref tr10, .int (nI (0 + 1))])), (tr9, .inl (cJ, 2, .inr (.inl s2))), (tr10, .inl (cB, 2, .inl b2))]) hP hD [0, 1, 2, 3] [4] rfl rfl (by decide) (by decide) hk1 hFc hP1 hD1
  have hK := (hK.sub (tys' := [(cS, .object "StreamQueries$Source"), (cO, .object "java/lang/Object")]) [4, 5] rfl).app hK1
  generalize H1 = H at hP hS ⊢
  have hP : va_P (dC, dI) vwCl [(mo, .inr (13, moF a (fun _ => 0) (-9223372036854775808))), (x0, .inr (12, [.ref tp, .int 0, .ref sm, .ref tk, .int 0, .null, .null, .ref as, .ref bs, .ref cs, .ref ds, .int 0, .ref cr, .ref cy, .int 0, .ref tr])), (tr, .inr (2, [.int 0, .ref tr0, .ref tr1, .ref tr2, .ref tr3, .ref tr4, .ref tr5, .ref tr6, .ref tr7, .ref tr8, .ref tr9, .ref tr10, .int (nI (0 + 1))])), (tr9, .inl (cJ, 2, .inr (.inl s2))), (tr10, .inl (cB, 2, .inl b2))] H := hP
  have hD : va_D A [(mo, .inr (13, moF a (fun _ => 0) (-9223372036854775808))), (x0, .inr (12, [.ref tp, .int 0, .ref sm, .ref tk, .int 0, .null, .null, .ref as, .ref bs, .ref cs, .ref ds, .int 0, .ref cr, .ref cy, .int 0, .ref tr])), (tr, .inr (2, [.int 0, .ref tr0, .ref tr1, .ref tr2, .ref tr3, .ref tr4, .ref tr5, .ref tr6, .ref tr7, .ref tr8, .ref tr9, .ref tr10, .int (nI (0 + 1))])), (tr9, .inl (cJ, 2, .inr (.inl s2))), (tr10, .inl (cB, 2, .inl b2))] := hD
  have hK : va_K (dC, dI) vwCl [(cS, .object "StreamQueries$Source"), (cO, .object "java/lang/Object"), (cB, .byte), (cI, .int), (cJ, .long), (cZ, .boolean)] s := hK
  have er_7 : r_7 = thr 5 (xs 2) (xs 3) := hw
  rw [er_7]
  refine lv_aload_n hx hb dL_law_703 rfl (lv_at hl 2 rfl) ?_
  refine lv_aload_n hx hb dL_law_704 rfl (lv_at hl 0 rfl) ?_
  refine lv_iload_n hx hb dL_law_705 rfl (lv_at hl 3 rfl) ?_
  refine lv_iconst (v := 1) hx hb dL_law_706 (by decide) ?_
  refine lv_iadd hx hb dL_law_707 ?_
  refine lv_topi (fun x_8 ex_8 => ?_)
  have ex_8 : x_8 = 1 := ex_8.trans (by decide)
  subst ex_8
  refine va_sld hx hb hX hbl hbA hS (i := 1) (vp_in_nI (n := 1) (N := 6) (by omega) (by omega)) dL_law_708 ?_
  refine lv_topi (fun x_9 ex_9 => ?_)
  have ex_9 : x_9 = xs 1 := ex_9.trans (congrArg xs (nI_clamp (n := 1) (by omega)))
  have ex_9 : x_9 = 5 := ex_9.trans he_1
  rw [ex_9]
  refine lv_aload_n hx hb dL_law_709 rfl (lv_at hl 0 rfl) ?_
  refine lv_iload_n hx hb dL_law_710 rfl (lv_at hl 3 rfl) ?_
  refine lv_iconst (v := 2) hx hb dL_law_711 (by decide) ?_
  refine lv_iadd hx hb dL_law_712 ?_
  refine lv_topi (fun x_10 ex_10 => ?_)
  have ex_10 : x_10 = 2 := ex_10.trans (by decide)
  subst ex_10
  refine va_sld hx hb hX hbl hbA hS (i := 2) (vp_in_nI (n := 2) (N := 6) (by omega) (by omega)) dL_law_713 ?_
  refine lv_topi (fun x_11 ex_11 => ?_)
  have ex_11 : x_11 = xs 2 := ex_11.trans (congrArg xs (nI_clamp (n := 2) (by omega)))
  rw [ex_11]
  refine lv_aload_n hx hb dL_law_714 rfl (lv_at hl 0 rfl) ?_
  refine lv_iload_n hx hb dL_law_715 rfl (lv_at hl 3 rfl) ?_
  refine lv_iconst (v := 3) hx hb dL_law_716 (by decide) ?_
  refine lv_iadd hx hb dL_law_717 ?_
  refine lv_topi (fun x_12 ex_12 => ?_)
  have ex_12 : x_12 = 3 := ex_12.trans (by decide)
  subst ex_12
  refine va_sld hx hb hX hbl hbA hS (i := 3) (vp_in_nI (n := 3) (N := 6) (by omega) (by omega)) dL_law_718 ?_
  refine lv_topi (fun x_13 ex_13 => ?_)
  have ex_13 : x_13 = xs 3 := ex_13.trans (congrArg xs (nI_clamp (n := 3) (by omega)))
  rw [ex_13]
  have hPc := hP.sub (ws' := [(mo, .inr (13, moF a (fun _ => 0) (-9223372036854775808)))]) [0] rfl
  have hDc := hD.sub (ws' := [(mo, .inr (13, moF a (fun _ => 0) (-9223372036854775808)))]) [0] (by decide) rfl
  have hKc := hK.sub (tys' := [(cB, .byte), (cI, .int), (cJ, .long), (cZ, .boolean)]) [2, 3, 4, 5] rfl
  have hFc := va_free (wc := [(mo, .inr (13, moF a (fun _ => 0) (-9223372036854775808)))]) hD hS hA [0] rfl
  refine va_calli (va_runV (As := [.int 5, .int (xs 2), .int (xs 3)]) (rest := [.int (thr 5 (xs 2) (xs 3))]) ⟨hx, hb, hml, hown, hts⟩ (t_mthree_5 l dC dI H.size cB cI cJ cZ mo a (fun _ => 0) (-9223372036854775808) (xs 2) (xs 3)) (cwV 3 hts (gd_law (in_V kw_2500 kw_2501 kw_2502 kw_191 kc_X12_three)) rfl rfl rfl (by decide +kernel) ⟨Nat.le_of_ble_eq_true rfl, Nat.le_of_ble_eq_true rfl⟩) ⟨fun a U g mk q => by obtain ⟨q0, q1, qP, qK, qD⟩ := q; exact ⟨q0, q1, qP, va_K.moved (u := U) (U := U.calling g mk a) (Vm.Alike.refl U.vm) qK, qD⟩, va_recv hKc hPc (ci := 13) (q0 := 0) rfl rfl, fun U hU hW => ⟨rfl, by rw [hU], by rw [hU]; exact hPc, va_K.moved hW.alike hKc, hDc.weaken (fun _ _ _ _ => trivial)⟩⟩ rfl rfl hl.1 rfl (lv_room (Nat.le_of_ble_eq_true rfl)) dL_law_719 ⟨Nat.le_of_ble_eq_true rfl, Nat.le_of_ble_eq_true rfl⟩) hS (fun q _ h => hFc q h) hFc (fun r_14 u t_ H1 locs ht hvm hw hB hz1 hk1 hS => ?_)
  obtain ⟨hP1, hK1, hD1⟩ := hB
  rw [ht] at hP1
  have hK1 := va_K.moved hvm.symm hK1
  obtain ⟨hP, hD⟩ := va_join (wr := [(x0, .inr (12, [.ref tp, .int 0, .ref sm, .ref tk, .int 0, .null, .null, .ref as, .ref bs, .ref cs, .ref ds, .int 0, .ref cr, .ref cy, .int 0, .ref tr])), (tr, .inr (2, [.int 0, .ref tr0, .ref tr1, .ref tr2, .ref tr3, .ref tr4, .ref tr5, .ref tr6, .ref tr7, .ref tr8, .ref tr9, .ref tr10, .int (nI (0 + 1))])), (tr9, .inl (cJ, 2, .inr (.inl s2))), (tr10, .inl (cB, 2, .inl b2))]) (w1 := [(mo, .inr (13, moF a (fun _ => 0) (-9223372036854775808)))]) hP hD [0] [1, 2, 3, 4] rfl rfl (by decide) (by decide) hk1 hFc hP1 hD1
  have hK := (hK.sub (tys' := [(cS, .object "StreamQueries$Source"), (cO, .object "java/lang/Object")]) [0, 1] rfl).app hK1
  generalize H1 = H at hP hS ⊢
  have hP : va_P (dC, dI) vwCl [(x0, .inr (12, [.ref tp, .int 0, .ref sm, .ref tk, .int 0, .null, .null, .ref as, .ref bs, .ref cs, .ref ds, .int 0, .ref cr, .ref cy, .int 0, .ref tr])), (tr, .inr (2, [.int 0, .ref tr0, .ref tr1, .ref tr2, .ref tr3, .ref tr4, .ref tr5, .ref tr6, .ref tr7, .ref tr8, .ref tr9, .ref tr10, .int (nI (0 + 1))])), (tr9, .inl (cJ, 2, .inr (.inl s2))), (tr10, .inl (cB, 2, .inl b2)), (mo, .inr (13, moF a (fun _ => 0) (-9223372036854775808)))] H := hP
  have hD : va_D A [(x0, .inr (12, [.ref tp, .int 0, .ref sm, .ref tk, .int 0, .null, .null, .ref as, .ref bs, .ref cs, .ref ds, .int 0, .ref cr, .ref cy, .int 0, .ref tr])), (tr, .inr (2, [.int 0, .ref tr0, .ref tr1, .ref tr2, .ref tr3, .ref tr4, .ref tr5, .ref tr6, .ref tr7, .ref tr8, .ref tr9, .ref tr10, .int (nI (0 + 1))])), (tr9, .inl (cJ, 2, .inr (.inl s2))), (tr10, .inl (cB, 2, .inl b2)), (mo, .inr (13, moF a (fun _ => 0) (-9223372036854775808)))] := hD
  have hK : va_K (dC, dI) vwCl [(cS, .object "StreamQueries$Source"), (cO, .object "java/lang/Object"), (cB, .byte), (cI, .int), (cJ, .long), (cZ, .boolean)] s := hK
  have er_14 : r_14 = thr 5 (xs 2) (xs 3) := hw
  rw [er_14]
  refine lv_icmp_eq (tgt := 750) hx hb dL_law_722 (by decide) (fun c_15 => ?_) (fun c_15 => ?_)
  · skip
    exact law_tail C0 hA hbA hAf (Nat.le_of_ble_eq_true rfl) (Nat.le_of_ble_eq_true rfl) hS (lv_sub hl [0, 1, 2, 3] rfl)
  · skip
    exact absurd rfl c_15
set_option maxHeartbeats 4000000 in
set_option maxRecDepth 100000 in
theorem lc_18_o {p : Program} {l : Launch} {e : Env} {s : State} {m : MethodId} {below : List Frame} {meth : Method} {c : Code} {dC : Nat → ClassId} {dI : Nat → Nat → Nat} {cB cI cJ cZ cS cO : ClassId} {b : Nat} {xs : Nat → Int32} {K V : Nat → Nat} {fz : Value} {A : Nat → Prop} {as as0 as1 as2 as3 bs bs0 bs1 bs2 bs3 cr cs cs0 cs1 cs2 cs3 cy ds ds0 ds1 ds2 ds3 mo sm sm0 sm1 sm2 sm3 sm4 sm5 tk tk0 tk1 tk2 tk3 tk4 tp tr tr0 tr1 tr10 tr2 tr3 tr4 tr5 tr6 tr7 tr8 tr9 x0 : Nat} {a : Nat → Nat} (C0 : lw_At p s m meth c b 6 xs) (hZ : zE K V fz A s) (hA : ∀ q : Nat, s.heap.size ≤ q → A q) (hbA : ¬ A b) (hAf : ∀ q : Nat, A q → s.heap.size ≤ q) (he_1 : (xs 1).toInt < 0 ∨ 5 < (xs 1).toInt) (hK : va_K (dC, dI) vwCl [(cB, .byte), (cI, .int), (cJ, .long), (cZ, .boolean), (cS, .object "StreamQueries$Source"), (cO, .object "java/lang/Object")] s) {H : Heap} {locs : List Loc} {ls : Array Slot} (hP : va_P (dC, dI) vwCl [(x0, .inr (12, [.ref tp, .int 0, .ref sm, .ref tk, .int 0, .null, .null, .ref as, .ref bs, .ref cs, .ref ds, .int 0, .ref cr, .ref cy, .int 0, .ref tr])), (tr, .inr (2, [.int 0, .ref tr0, .ref tr1, .ref tr2, .ref tr3, .ref tr4, .ref tr5, .ref tr6, .ref tr7, .ref tr8, .ref tr9, .ref tr10, .int 0])), (tr9, .inl (cJ, 2, .inr (.inl (fun _ => 0)))), (tr10, .inl (cB, 2, .inl (fun _ => 0))), (mo, .inr (13, moF a (fun _ => 0) (-9223372036854775808)))] H) (hD : va_D A [(x0, .inr (12, [.ref tp, .int 0, .ref sm, .ref tk, .int 0, .null, .null, .ref as, .ref bs, .ref cs, .ref ds, .int 0, .ref cr, .ref cy, .int 0, .ref tr])), (tr, .inr (2, [.int 0, .ref tr0, .ref tr1, .ref tr2, .ref tr3, .ref tr4, .ref tr5, .ref tr6, .ref tr7, .ref tr8, .ref tr9, .ref tr10, .int 0])), (tr9, .inl (cJ, 2, .inr (.inl (fun _ => 0)))), (tr10, .inl (cB, 2, .inl (fun _ => 0))), (mo, .inr (13, moF a (fun _ => 0) (-9223372036854775808)))]) (hS : va_S A s.heap H locs) (hl : lv_has ls 4 [(0, .ref b), (1, .ref x0), (2, .ref mo), (3, .int 0)]) : W p l e room_1 s m #[Value.ref b] below meth c H locs 127 886803 (lw_Z below #[Value.ref b] s) (F0 m 684 ls []) := by
  obtain ⟨hx, hb, hr, hml, hown, hts, hX, hbl, hlocks, hgv⟩ := id C0
  refine lv_aload_n hx hb dL_law_684 rfl (lv_at hl 1 rfl) ?_
  refine lv_aload_n hx hb dL_law_685 rfl (lv_at hl 0 rfl) ?_
  refine lv_iload_n hx hb dL_law_686 rfl (lv_at hl 3 rfl) ?_
  refine lv_iconst (v := 1) hx hb dL_law_687 (by decide) ?_
  refine lv_iadd hx hb dL_law_688 ?_
  refine lv_topi (fun x_1 ex_1 => ?_)
  have ex_1 : x_1 = 1 := ex_1.trans (by decide)
  subst ex_1
  refine va_sld hx hb hX hbl hbA hS (i := 1) (vp_in_nI (n := 1) (N := 6) (by omega) (by omega)) dL_law_689 ?_
  refine lv_topi (fun x_2 ex_2 => ?_)
  have ex_2 : x_2 = xs 1 := ex_2.trans (congrArg xs (nI_clamp (n := 1) (by omega)))
  rw [ex_2]
  refine lv_aload_n hx hb dL_law_690 rfl (lv_at hl 0 rfl) ?_
  refine lv_iload_n hx hb dL_law_691 rfl (lv_at hl 3 rfl) ?_
  refine lv_iconst (v := 2) hx hb dL_law_692 (by decide) ?_
  refine lv_iadd hx hb dL_law_693 ?_
  refine lv_topi (fun x_3 ex_3 => ?_)
  have ex_3 : x_3 = 2 := ex_3.trans (by decide)
  subst ex_3
  refine va_sld hx hb hX hbl hbA hS (i := 2) (vp_in_nI (n := 2) (N := 6) (by omega) (by omega)) dL_law_694 ?_
  refine lv_topi (fun x_4 ex_4 => ?_)
  have ex_4 : x_4 = xs 2 := ex_4.trans (congrArg xs (nI_clamp (n := 2) (by omega)))
  rw [ex_4]
  refine lv_aload_n hx hb dL_law_695 rfl (lv_at hl 0 rfl) ?_
  refine lv_iload_n hx hb dL_law_696 rfl (lv_at hl 3 rfl) ?_
  refine lv_iconst (v := 3) hx hb dL_law_697 (by decide) ?_
  refine lv_iadd hx hb dL_law_698 ?_
  refine lv_topi (fun x_5 ex_5 => ?_)
  have ex_5 : x_5 = 3 := ex_5.trans (by decide)
  subst ex_5
  refine va_sld hx hb hX hbl hbA hS (i := 3) (vp_in_nI (n := 3) (N := 6) (by omega) (by omega)) dL_law_699 ?_
  refine lv_topi (fun x_6 ex_6 => ?_)
  have ex_6 : x_6 = xs 3 := ex_6.trans (congrArg xs (nI_clamp (n := 3) (by omega)))
  rw [ex_6]
  have hPc := hP.sub (ws' := [(x0, .inr (12, [.ref tp, .int 0, .ref sm, .ref tk, .int 0, .null, .null, .ref as, .ref bs, .ref cs, .ref ds, .int 0, .ref cr, .ref cy, .int 0, .ref tr])), (tr, .inr (2, [.int 0, .ref tr0, .ref tr1, .ref tr2, .ref tr3, .ref tr4, .ref tr5, .ref tr6, .ref tr7, .ref tr8, .ref tr9, .ref tr10, .int 0])), (tr9, .inl (cJ, 2, .inr (.inl (fun _ => 0)))), (tr10, .inl (cB, 2, .inl (fun _ => 0)))]) [0, 1, 2, 3] rfl
  have hDc := hD.sub (ws' := [(x0, .inr (12, [.ref tp, .int 0, .ref sm, .ref tk, .int 0, .null, .null, .ref as, .ref bs, .ref cs, .ref ds, .int 0, .ref cr, .ref cy, .int 0, .ref tr])), (tr, .inr (2, [.int 0, .ref tr0, .ref tr1, .ref tr2, .ref tr3, .ref tr4, .ref tr5, .ref tr6, .ref tr7, .ref tr8, .ref tr9, .ref tr10, .int 0])), (tr9, .inl (cJ, 2, .inr (.inl (fun _ => 0)))), (tr10, .inl (cB, 2, .inl (fun _ => 0)))]) [0, 1, 2, 3] (by decide) rfl
  have hKc := hK.sub (tys' := [(cB, .byte), (cI, .int), (cJ, .long), (cZ, .boolean)]) [0, 1, 2, 3] rfl
  have hFc := va_free (wc := [(x0, .inr (12, [.ref tp, .int 0, .ref sm, .ref tk, .int 0, .null, .null, .ref as, .ref bs, .ref cs, .ref ds, .int 0, .ref cr, .ref cy, .int 0, .ref tr])), (tr, .inr (2, [.int 0, .ref tr0, .ref tr1, .ref tr2, .ref tr3, .ref tr4, .ref tr5, .ref tr6, .ref tr7, .ref tr8, .ref tr9, .ref tr10, .int 0])), (tr9, .inl (cJ, 2, .inr (.inl (fun _ => 0)))), (tr10, .inl (cB, 2, .inl (fun _ => 0)))]) hD hS hA [0, 1, 2, 3] rfl
  refine va_calli (va_runV (As := [.int (xs 1), .int (xs 2), .int (xs 3)]) (rest := []) ⟨hx, hb, hml, hown, hts⟩ (t_three_o l dC dI H.size cB cI cJ cZ x0 tr tr9 tr10 0 (.ref tr0) (.ref tr1) (.ref tr2) (.ref tr3) (.ref tr4) (.ref tr5) (.ref tr6) (.ref tr7) (.ref tr8) (fun _ => 0) (fun _ => 0) 0 (.ref tp) (.ref sm) (.ref tk) .null .null (.ref as) (.ref bs) (.ref cs) (.ref ds) (.ref cr) (.ref cy) 0 0 0 0 (xs 1) (xs 2) (xs 3) he_1) (cwV 3 hts (gd_law (in_V kw_1660 kw_1661 kw_1662 kw_181 kc_X11_three)) rfl rfl rfl (by decide +kernel) ⟨Nat.le_of_ble_eq_true rfl, Nat.le_of_ble_eq_true rfl⟩) ⟨fun a U g mk q => by obtain ⟨q0, q1, qP, qK, qD⟩ := q; exact ⟨q0, q1, qP, va_K.moved (u := U) (U := U.calling g mk a) (Vm.Alike.refl U.vm) qK, qD⟩, va_recv hKc hPc (ci := 12) (q0 := 0) rfl rfl, fun U hU hW => ⟨rfl, by rw [hU], by rw [hU]; exact hPc, va_K.moved hW.alike hKc, hDc.weaken (fun _ _ _ _ => trivial)⟩⟩ rfl rfl hl.1 rfl (lv_room (Nat.le_of_ble_eq_true rfl)) dL_law_700 ⟨Nat.le_of_ble_eq_true rfl, Nat.le_of_ble_eq_true rfl⟩) hS (fun q _ h => hFc q h) hFc (fun r_7 u t_ H1 locs ht hvm hw hB hz1 hk1 hS => ?_)
  obtain ⟨hP1, hK1, hD1⟩ := hB
  rw [ht] at hP1
  have hK1 := va_K.moved hvm.symm hK1
  obtain ⟨hP, hD⟩ := va_join (wr := [(mo, .inr (13, moF a (fun _ => 0) (-9223372036854775808)))]) (w1 := [(x0, .inr (12, [.ref tp, .int 0, .ref sm, .ref tk, .int 0, .null, .null, .ref as, .ref bs, .ref cs, .ref ds, .int 0, .ref cr, .ref cy, .int 0, .ref tr])), (tr, .inr (2, [.int 0, .ref tr0, .ref tr1, .ref tr2, .ref tr3, .ref tr4, .ref tr5, .ref tr6, .ref tr7, .ref tr8, .ref tr9, .ref tr10, .int 0])), (tr9, .inl (cJ, 2, .inr (.inl (fun _ => 0)))), (tr10, .inl (cB, 2, .inl (fun _ => 0)))]) hP hD [0, 1, 2, 3] [4] rfl rfl (by decide) (by decide) hk1 hFc hP1 hD1
  have hK := (hK.sub (tys' := [(cS, .object "StreamQueries$Source"), (cO, .object "java/lang/Object")]) [4, 5] rfl).app hK1
  generalize H1 = H at hP hS ⊢
  have hP : va_P (dC, dI) vwCl [(mo, .inr (13, moF a (fun _ => 0) (-9223372036854775808))), (x0, .inr (12, [.ref tp, .int 0, .ref sm, .ref tk, .int 0, .null, .null, .ref as, .ref bs, .ref cs, .ref ds, .int 0, .ref cr, .ref cy, .int 0, .ref tr])), (tr, .inr (2, [.int 0, .ref tr0, .ref tr1, .ref tr2, .ref tr3, .ref tr4, .ref tr5, .ref tr6, .ref tr7, .ref tr8, .ref tr9, .ref tr10, .int 0])), (tr9, .inl (cJ, 2, .inr (.inl (fun _ => 0)))), (tr10, .inl (cB, 2, .inl (fun _ => 0)))] H := hP
  have hD : va_D A [(mo, .inr (13, moF a (fun _ => 0) (-9223372036854775808))), (x0, .inr (12, [.ref tp, .int 0, .ref sm, .ref tk, .int 0, .null, .null, .ref as, .ref bs, .ref cs, .ref ds, .int 0, .ref cr, .ref cy, .int 0, .ref tr])), (tr, .inr (2, [.int 0, .ref tr0, .ref tr1, .ref tr2, .ref tr3, .ref tr4, .ref tr5, .ref tr6, .ref tr7, .ref tr8, .ref tr9, .ref tr10, .int 0])), (tr9, .inl (cJ, 2, .inr (.inl (fun _ => 0)))), (tr10, .inl (cB, 2, .inl (fun _ => 0)))] := hD
  have hK : va_K (dC, dI) vwCl [(cS, .object "StreamQueries$Source"), (cO, .object "java/lang/Object"), (cB, .byte), (cI, .int), (cJ, .long), (cZ, .boolean)] s := hK
  have er_7 : r_7 = (-2) := hw
  rw [er_7]
  refine lv_aload_n hx hb dL_law_703 rfl (lv_at hl 2 rfl) ?_
  refine lv_aload_n hx hb dL_law_704 rfl (lv_at hl 0 rfl) ?_
  refine lv_iload_n hx hb dL_law_705 rfl (lv_at hl 3 rfl) ?_
  refine lv_iconst (v := 1) hx hb dL_law_706 (by decide) ?_
  refine lv_iadd hx hb dL_law_707 ?_
  refine lv_topi (fun x_8 ex_8 => ?_)
  have ex_8 : x_8 = 1 := ex_8.trans (by decide)
  subst ex_8
  refine va_sld hx hb hX hbl hbA hS (i := 1) (vp_in_nI (n := 1) (N := 6) (by omega) (by omega)) dL_law_708 ?_
  refine lv_topi (fun x_9 ex_9 => ?_)
  have ex_9 : x_9 = xs 1 := ex_9.trans (congrArg xs (nI_clamp (n := 1) (by omega)))
  rw [ex_9]
  refine lv_aload_n hx hb dL_law_709 rfl (lv_at hl 0 rfl) ?_
  refine lv_iload_n hx hb dL_law_710 rfl (lv_at hl 3 rfl) ?_
  refine lv_iconst (v := 2) hx hb dL_law_711 (by decide) ?_
  refine lv_iadd hx hb dL_law_712 ?_
  refine lv_topi (fun x_10 ex_10 => ?_)
  have ex_10 : x_10 = 2 := ex_10.trans (by decide)
  subst ex_10
  refine va_sld hx hb hX hbl hbA hS (i := 2) (vp_in_nI (n := 2) (N := 6) (by omega) (by omega)) dL_law_713 ?_
  refine lv_topi (fun x_11 ex_11 => ?_)
  have ex_11 : x_11 = xs 2 := ex_11.trans (congrArg xs (nI_clamp (n := 2) (by omega)))
  rw [ex_11]
  refine lv_aload_n hx hb dL_law_714 rfl (lv_at hl 0 rfl) ?_
  refine lv_iload_n hx hb dL_law_715 rfl (lv_at hl 3 rfl) ?_
  refine lv_iconst (v := 3) hx hb dL_law_716 (by decide) ?_
  refine lv_iadd hx hb dL_law_717 ?_
  refine lv_topi (fun x_12 ex_12 => ?_)
  have ex_12 : x_12 = 3 := ex_12.trans (by decide)
  subst ex_12
  refine va_sld hx hb hX hbl hbA hS (i := 3) (vp_in_nI (n := 3) (N := 6) (by omega) (by omega)) dL_law_718 ?_
  refine lv_topi (fun x_13 ex_13 => ?_)
  have ex_13 : x_13 = xs 3 := ex_13.trans (congrArg xs (nI_clamp (n := 3) (by omega)))
  rw [ex_13]
  have hPc := hP.sub (ws' := [(mo, .inr (13, moF a (fun _ => 0) (-9223372036854775808)))]) [0] rfl
  have hDc := hD.sub (ws' := [(mo, .inr (13, moF a (fun _ => 0) (-9223372036854775808)))]) [0] (by decide) rfl
  have hKc := hK.sub (tys' := [(cB, .byte), (cI, .int), (cJ, .long), (cZ, .boolean)]) [2, 3, 4, 5] rfl
  have hFc := va_free (wc := [(mo, .inr (13, moF a (fun _ => 0) (-9223372036854775808)))]) hD hS hA [0] rfl
  refine va_calli (va_runV (As := [.int (xs 1), .int (xs 2), .int (xs 3)]) (rest := [.int (-2)]) ⟨hx, hb, hml, hown, hts⟩ (t_mthree_o l dC dI H.size cB cI cJ cZ mo a (fun _ => 0) (-9223372036854775808) (xs 1) (xs 2) (xs 3) (th_o he_1)) (cwV 3 hts (gd_law (in_V kw_2500 kw_2501 kw_2502 kw_191 kc_X12_three)) rfl rfl rfl (by decide +kernel) ⟨Nat.le_of_ble_eq_true rfl, Nat.le_of_ble_eq_true rfl⟩) ⟨fun a U g mk q => by obtain ⟨q0, q1, qP, qK, qD⟩ := q; exact ⟨q0, q1, qP, va_K.moved (u := U) (U := U.calling g mk a) (Vm.Alike.refl U.vm) qK, qD⟩, va_recv hKc hPc (ci := 13) (q0 := 0) rfl rfl, fun U hU hW => ⟨rfl, by rw [hU], by rw [hU]; exact hPc, va_K.moved hW.alike hKc, hDc.weaken (fun _ _ _ _ => trivial)⟩⟩ rfl rfl hl.1 rfl (lv_room (Nat.le_of_ble_eq_true rfl)) dL_law_719 ⟨Nat.le_of_ble_eq_true rfl, Nat.le_of_ble_eq_true rfl⟩) hS (fun q _ h => hFc q h) hFc (fun r_14 u t_ H1 locs ht hvm hw hB hz1 hk1 hS => ?_)
  obtain ⟨hP1, hK1, hD1⟩ := hB
  rw [ht] at hP1
  have hK1 := va_K.moved hvm.symm hK1
  obtain ⟨hP, hD⟩ := va_join (wr := [(x0, .inr (12, [.ref tp, .int 0, .ref sm, .ref tk, .int 0, .null, .null, .ref as, .ref bs, .ref cs, .ref ds, .int 0, .ref cr, .ref cy, .int 0, .ref tr])), (tr, .inr (2, [.int 0, .ref tr0, .ref tr1, .ref tr2, .ref tr3, .ref tr4, .ref tr5, .ref tr6, .ref tr7, .ref tr8, .ref tr9, .ref tr10, .int 0])), (tr9, .inl (cJ, 2, .inr (.inl (fun _ => 0)))), (tr10, .inl (cB, 2, .inl (fun _ => 0)))]) (w1 := [(mo, .inr (13, moF a (fun _ => 0) (-9223372036854775808)))]) hP hD [0] [1, 2, 3, 4] rfl rfl (by decide) (by decide) hk1 hFc hP1 hD1
  have hK := (hK.sub (tys' := [(cS, .object "StreamQueries$Source"), (cO, .object "java/lang/Object")]) [0, 1] rfl).app hK1
  generalize H1 = H at hP hS ⊢
  have hP : va_P (dC, dI) vwCl [(x0, .inr (12, [.ref tp, .int 0, .ref sm, .ref tk, .int 0, .null, .null, .ref as, .ref bs, .ref cs, .ref ds, .int 0, .ref cr, .ref cy, .int 0, .ref tr])), (tr, .inr (2, [.int 0, .ref tr0, .ref tr1, .ref tr2, .ref tr3, .ref tr4, .ref tr5, .ref tr6, .ref tr7, .ref tr8, .ref tr9, .ref tr10, .int 0])), (tr9, .inl (cJ, 2, .inr (.inl (fun _ => 0)))), (tr10, .inl (cB, 2, .inl (fun _ => 0))), (mo, .inr (13, moF a (fun _ => 0) (-9223372036854775808)))] H := hP
  have hD : va_D A [(x0, .inr (12, [.ref tp, .int 0, .ref sm, .ref tk, .int 0, .null, .null, .ref as, .ref bs, .ref cs, .ref ds, .int 0, .ref cr, .ref cy, .int 0, .ref tr])), (tr, .inr (2, [.int 0, .ref tr0, .ref tr1, .ref tr2, .ref tr3, .ref tr4, .ref tr5, .ref tr6, .ref tr7, .ref tr8, .ref tr9, .ref tr10, .int 0])), (tr9, .inl (cJ, 2, .inr (.inl (fun _ => 0)))), (tr10, .inl (cB, 2, .inl (fun _ => 0))), (mo, .inr (13, moF a (fun _ => 0) (-9223372036854775808)))] := hD
  have hK : va_K (dC, dI) vwCl [(cS, .object "StreamQueries$Source"), (cO, .object "java/lang/Object"), (cB, .byte), (cI, .int), (cJ, .long), (cZ, .boolean)] s := hK
  have er_14 : r_14 = (-2) := hw
  rw [er_14]
  refine lv_icmp_eq (tgt := 750) hx hb dL_law_722 (by decide) (fun c_15 => ?_) (fun c_15 => ?_)
  · skip
    exact law_tail C0 hA hbA hAf (Nat.le_of_ble_eq_true rfl) (Nat.le_of_ble_eq_true rfl) hS (lv_sub hl [0, 1, 2, 3] rfl)
  · skip
    exact absurd rfl c_15
set_option maxHeartbeats 4000000 in
set_option maxRecDepth 100000 in
theorem lc_19_0 {p : Program} {l : Launch} {e : Env} {s : State} {m : MethodId} {below : List Frame} {meth : Method} {c : Code} {dC : Nat → ClassId} {dI : Nat → Nat → Nat} {cB cI cJ cZ cS cO : ClassId} {b : Nat} {xs : Nat → Int32} {K V : Nat → Nat} {fz : Value} {A : Nat → Prop} {as as0 as1 as2 as3 bs bs0 bs1 bs2 bs3 cr cs cs0 cs1 cs2 cs3 cy ds ds0 ds1 ds2 ds3 mo sm sm0 sm1 sm2 sm3 sm4 sm5 tk tk0 tk1 tk2 tk3 tk4 tp tr tr0 tr1 tr10 tr2 tr3 tr4 tr5 tr6 tr7 tr8 tr9 x0 : Nat} {a : Nat → Nat} (C0 : lw_At p s m meth c b 6 xs) (hZ : zE K V fz A s) (hA : ∀ q : Nat, s.heap.size ≤ q → A q) (hbA : ¬ A b) (hAf : ∀ q : Nat, A q → s.heap.size ≤ q) (he_1 : xs 1 = 0) (hK : va_K (dC, dI) vwCl [(cB, .byte), (cI, .int), (cJ, .long), (cZ, .boolean), (cS, .object "StreamQueries$Source"), (cO, .object "java/lang/Object")] s) {H : Heap} {locs : List Loc} {ls : Array Slot} (hP : va_P (dC, dI) vwCl [(x0, .inr (12, [.ref tp, .int 0, .ref sm, .ref tk, .int 0, .null, .null, .ref as, .ref bs, .ref cs, .ref ds, .int 0, .ref cr, .ref cy, .int 0, .ref tr])), (sm, .inr (8, [.int 0, .long (-9223372036854775808), .ref sm0, .ref sm1, .ref sm2, .ref sm3, .ref sm4, .ref sm5, .int 0])), (mo, .inr (13, moF a (fun _ => 0) (-9223372036854775808)))] H) (hD : va_D A [(x0, .inr (12, [.ref tp, .int 0, .ref sm, .ref tk, .int 0, .null, .null, .ref as, .ref bs, .ref cs, .ref ds, .int 0, .ref cr, .ref cy, .int 0, .ref tr])), (sm, .inr (8, [.int 0, .long (-9223372036854775808), .ref sm0, .ref sm1, .ref sm2, .ref sm3, .ref sm4, .ref sm5, .int 0])), (mo, .inr (13, moF a (fun _ => 0) (-9223372036854775808)))]) (hS : va_S A s.heap H locs) (hl : lv_has ls 4 [(0, .ref b), (1, .ref x0), (2, .ref mo), (3, .int 0)]) : W p l e room_1 s m #[Value.ref b] below meth c H locs 127 886803 (lw_Z below #[Value.ref b] s) (F0 m 727 ls []) := by
  obtain ⟨hx, hb, hr, hml, hown, hts, hX, hbl, hlocks, hgv⟩ := id C0
  refine lv_aload_n hx hb dL_law_727 rfl (lv_at hl 1 rfl) ?_
  refine lv_aload_n hx hb dL_law_728 rfl (lv_at hl 0 rfl) ?_
  refine lv_iload_n hx hb dL_law_729 rfl (lv_at hl 3 rfl) ?_
  refine lv_iconst (v := 1) hx hb dL_law_730 (by decide) ?_
  refine lv_iadd hx hb dL_law_731 ?_
  refine lv_topi (fun x_1 ex_1 => ?_)
  have ex_1 : x_1 = 1 := ex_1.trans (by decide)
  subst ex_1
  refine va_sld hx hb hX hbl hbA hS (i := 1) (vp_in_nI (n := 1) (N := 6) (by omega) (by omega)) dL_law_732 ?_
  refine lv_topi (fun x_2 ex_2 => ?_)
  have ex_2 : x_2 = xs 1 := ex_2.trans (congrArg xs (nI_clamp (n := 1) (by omega)))
  have ex_2 : x_2 = 0 := ex_2.trans he_1
  rw [ex_2]
  have hPc := hP.sub (ws' := [(x0, .inr (12, [.ref tp, .int 0, .ref sm, .ref tk, .int 0, .null, .null, .ref as, .ref bs, .ref cs, .ref ds, .int 0, .ref cr, .ref cy, .int 0, .ref tr])), (sm, .inr (8, [.int 0, .long (-9223372036854775808), .ref sm0, .ref sm1, .ref sm2, .ref sm3, .ref sm4, .ref sm5, .int 0]))]) [0, 1] rfl
  have hDc := hD.sub (ws' := [(x0, .inr (12, [.ref tp, .int 0, .ref sm, .ref tk, .int 0, .null, .null, .ref as, .ref bs, .ref cs, .ref ds, .int 0, .ref cr, .ref cy, .int 0, .ref tr])), (sm, .inr (8, [.int 0, .long (-9223372036854775808), .ref sm0, .ref sm1, .ref sm2, .ref sm3, .ref sm4, .ref sm5, .int 0]))]) [0, 1] (by decide) rfl
  have hKc := hK.sub (tys' := [(cB, .byte), (cI, .int), (cJ, .long), (cZ, .boolean)]) [0, 1, 2, 3] rfl
  have hFc := va_free (wc := [(x0, .inr (12, [.ref tp, .int 0, .ref sm, .ref tk, .int 0, .null, .null, .ref as, .ref bs, .ref cs, .ref ds, .int 0, .ref cr, .ref cy, .int 0, .ref tr])), (sm, .inr (8, [.int 0, .long (-9223372036854775808), .ref sm0, .ref sm1, .ref sm2, .ref sm3, .ref sm4, .ref sm5, .int 0]))]) hD hS hA [0, 1] rfl
  refine va_calli (va_runV (As := [.int 0]) (rest := []) ⟨hx, hb, hml, hown, hts⟩ (t_X11_told_0 l dC dI H.size cB cI cJ cZ x0 sm (.ref tp) (.ref tk) .null (.ref as) (.ref bs) (.ref cs) (.ref ds) (.ref cr) (.ref cy) (.ref tr) 0 0 0 0 (.ref sm0) (.ref sm1) (.ref sm2) (.ref sm3) (.ref sm4) (.ref sm5) 0 0 (-9223372036854775808)) (cwV 1 hts (gd_law (in_V kw_1670 kw_1671 kw_1672 kw_181 kc_X11_told)) rfl rfl rfl (by decide +kernel) ⟨Nat.le_of_ble_eq_true rfl, Nat.le_of_ble_eq_true rfl⟩) ⟨fun a U g mk q => by obtain ⟨q0, q1, qP, qK, qD⟩ := q; exact ⟨q0, q1, qP, va_K.moved (u := U) (U := U.calling g mk a) (Vm.Alike.refl U.vm) qK, qD⟩, va_recv hKc hPc (ci := 12) (q0 := 0) rfl rfl, fun U hU hW => ⟨rfl, by rw [hU], by rw [hU]; exact hPc, va_K.moved hW.alike hKc, hDc.weaken (fun _ _ _ _ => trivial)⟩⟩ rfl rfl hl.1 rfl (lv_room (Nat.le_of_ble_eq_true rfl)) dL_law_733 ⟨Nat.le_of_ble_eq_true rfl, Nat.le_of_ble_eq_true rfl⟩) hS (fun q _ h => hFc q h) hFc (fun r_3 u t_ H1 locs ht hvm hw hB hz1 hk1 hS => ?_)
  obtain ⟨hP1, hK1, hD1⟩ := hB
  rw [ht] at hP1
  have hK1 := va_K.moved hvm.symm hK1
  obtain ⟨hP, hD⟩ := va_join (wr := [(mo, .inr (13, moF a (fun _ => 0) (-9223372036854775808)))]) (w1 := [(x0, .inr (12, [.ref tp, .int 0, .ref sm, .ref tk, .int 0, .null, .null, .ref as, .ref bs, .ref cs, .ref ds, .int 0, .ref cr, .ref cy, .int 0, .ref tr])), (sm, .inr (8, [.int 0, .long (-9223372036854775808), .ref sm0, .ref sm1, .ref sm2, .ref sm3, .ref sm4, .ref sm5, .int 0]))]) hP hD [0, 1] [2] rfl rfl (by decide) (by decide) hk1 hFc hP1 hD1
  have hK := (hK.sub (tys' := [(cS, .object "StreamQueries$Source"), (cO, .object "java/lang/Object")]) [4, 5] rfl).app hK1
  generalize H1 = H at hP hS ⊢
  have hP : va_P (dC, dI) vwCl [(mo, .inr (13, moF a (fun _ => 0) (-9223372036854775808))), (x0, .inr (12, [.ref tp, .int 0, .ref sm, .ref tk, .int 0, .null, .null, .ref as, .ref bs, .ref cs, .ref ds, .int 0, .ref cr, .ref cy, .int 0, .ref tr])), (sm, .inr (8, [.int 0, .long (-9223372036854775808), .ref sm0, .ref sm1, .ref sm2, .ref sm3, .ref sm4, .ref sm5, .int 0]))] H := hP
  have hD : va_D A [(mo, .inr (13, moF a (fun _ => 0) (-9223372036854775808))), (x0, .inr (12, [.ref tp, .int 0, .ref sm, .ref tk, .int 0, .null, .null, .ref as, .ref bs, .ref cs, .ref ds, .int 0, .ref cr, .ref cy, .int 0, .ref tr])), (sm, .inr (8, [.int 0, .long (-9223372036854775808), .ref sm0, .ref sm1, .ref sm2, .ref sm3, .ref sm4, .ref sm5, .int 0]))] := hD
  have hK : va_K (dC, dI) vwCl [(cS, .object "StreamQueries$Source"), (cO, .object "java/lang/Object"), (cB, .byte), (cI, .int), (cJ, .long), (cZ, .boolean)] s := hK
  have er_3 : r_3 = 0 := hw
  rw [er_3]
  refine lv_aload_n hx hb dL_law_736 rfl (lv_at hl 2 rfl) ?_
  refine lv_aload_n hx hb dL_law_737 rfl (lv_at hl 0 rfl) ?_
  refine lv_iload_n hx hb dL_law_738 rfl (lv_at hl 3 rfl) ?_
  refine lv_iconst (v := 1) hx hb dL_law_739 (by decide) ?_
  refine lv_iadd hx hb dL_law_740 ?_
  refine lv_topi (fun x_4 ex_4 => ?_)
  have ex_4 : x_4 = 1 := ex_4.trans (by decide)
  subst ex_4
  refine va_sld hx hb hX hbl hbA hS (i := 1) (vp_in_nI (n := 1) (N := 6) (by omega) (by omega)) dL_law_741 ?_
  refine lv_topi (fun x_5 ex_5 => ?_)
  have ex_5 : x_5 = xs 1 := ex_5.trans (congrArg xs (nI_clamp (n := 1) (by omega)))
  have ex_5 : x_5 = 0 := ex_5.trans he_1
  rw [ex_5]
  have hPc := hP.sub (ws' := [(mo, .inr (13, moF a (fun _ => 0) (-9223372036854775808)))]) [0] rfl
  have hDc := hD.sub (ws' := [(mo, .inr (13, moF a (fun _ => 0) (-9223372036854775808)))]) [0] (by decide) rfl
  have hKc := hK.sub (tys' := [(cB, .byte), (cI, .int), (cJ, .long), (cZ, .boolean)]) [2, 3, 4, 5] rfl
  have hFc := va_free (wc := [(mo, .inr (13, moF a (fun _ => 0) (-9223372036854775808)))]) hD hS hA [0] rfl
  refine va_calli (va_runV (As := [.int 0]) (rest := [.int 0]) ⟨hx, hb, hml, hown, hts⟩ (t_X12_told_0 l dC dI H.size cB cI cJ cZ mo a (fun _ => 0) (-9223372036854775808) rfl) (cwV 1 hts (gd_law (in_V kw_2504 kw_2505 kw_2506 kw_191 kc_X12_told)) rfl rfl rfl (by decide +kernel) ⟨Nat.le_of_ble_eq_true rfl, Nat.le_of_ble_eq_true rfl⟩) ⟨fun a U g mk q => by obtain ⟨q0, q1, qP, qK, qD⟩ := q; exact ⟨q0, q1, qP, va_K.moved (u := U) (U := U.calling g mk a) (Vm.Alike.refl U.vm) qK, qD⟩, va_recv hKc hPc (ci := 13) (q0 := 0) rfl rfl, fun U hU hW => ⟨rfl, by rw [hU], by rw [hU]; exact hPc, va_K.moved hW.alike hKc, hDc.weaken (fun _ _ _ _ => trivial)⟩⟩ rfl rfl hl.1 rfl (lv_room (Nat.le_of_ble_eq_true rfl)) dL_law_742 ⟨Nat.le_of_ble_eq_true rfl, Nat.le_of_ble_eq_true rfl⟩) hS (fun q _ h => hFc q h) hFc (fun r_6 u t_ H1 locs ht hvm hw hB hz1 hk1 hS => ?_)
  obtain ⟨hP1, hK1, hD1⟩ := hB
  rw [ht] at hP1
  have hK1 := va_K.moved hvm.symm hK1
  obtain ⟨hP, hD⟩ := va_join (wr := [(x0, .inr (12, [.ref tp, .int 0, .ref sm, .ref tk, .int 0, .null, .null, .ref as, .ref bs, .ref cs, .ref ds, .int 0, .ref cr, .ref cy, .int 0, .ref tr])), (sm, .inr (8, [.int 0, .long (-9223372036854775808), .ref sm0, .ref sm1, .ref sm2, .ref sm3, .ref sm4, .ref sm5, .int 0]))]) (w1 := [(mo, .inr (13, moF a (fun _ => 0) (-9223372036854775808)))]) hP hD [0] [1, 2] rfl rfl (by decide) (by decide) hk1 hFc hP1 hD1
  have hK := (hK.sub (tys' := [(cS, .object "StreamQueries$Source"), (cO, .object "java/lang/Object")]) [0, 1] rfl).app hK1
  generalize H1 = H at hP hS ⊢
  have hP : va_P (dC, dI) vwCl [(x0, .inr (12, [.ref tp, .int 0, .ref sm, .ref tk, .int 0, .null, .null, .ref as, .ref bs, .ref cs, .ref ds, .int 0, .ref cr, .ref cy, .int 0, .ref tr])), (sm, .inr (8, [.int 0, .long (-9223372036854775808), .ref sm0, .ref sm1, .ref sm2, .ref sm3, .ref sm4, .ref sm5, .int 0])), (mo, .inr (13, moF a (fun _ => 0) (-9223372036854775808)))] H := hP
  have hD : va_D A [(x0, .inr (12, [.ref tp, .int 0, .ref sm, .ref tk, .int 0, .null, .null, .ref as, .ref bs, .ref cs, .ref ds, .int 0, .ref cr, .ref cy, .int 0, .ref tr])), (sm, .inr (8, [.int 0, .long (-9223372036854775808), .ref sm0, .ref sm1, .ref sm2, .ref sm3, .ref sm4, .ref sm5, .int 0])), (mo, .inr (13, moF a (fun _ => 0) (-9223372036854775808)))] := hD
  have hK : va_K (dC, dI) vwCl [(cS, .object "StreamQueries$Source"), (cO, .object "java/lang/Object"), (cB, .byte), (cI, .int), (cJ, .long), (cZ, .boolean)] s := hK
  have er_6 : r_6 = 0 := hw
  rw [er_6]
  refine lv_icmp_eq (tgt := 750) hx hb dL_law_745 (by decide) (fun c_7 => ?_) (fun c_7 => ?_)
  · skip
    exact law_tail C0 hA hbA hAf (Nat.le_of_ble_eq_true rfl) (Nat.le_of_ble_eq_true rfl) hS (lv_sub hl [0, 1, 2, 3] rfl)
  · skip
    exact absurd c_7 (by decide)
set_option maxHeartbeats 4000000 in
set_option maxRecDepth 100000 in
theorem lc_19_1 {p : Program} {l : Launch} {e : Env} {s : State} {m : MethodId} {below : List Frame} {meth : Method} {c : Code} {dC : Nat → ClassId} {dI : Nat → Nat → Nat} {cB cI cJ cZ cS cO : ClassId} {b : Nat} {xs : Nat → Int32} {K V : Nat → Nat} {fz : Value} {A : Nat → Prop} {as as0 as1 as2 as3 bs bs0 bs1 bs2 bs3 cr cs cs0 cs1 cs2 cs3 cy ds ds0 ds1 ds2 ds3 mo sm sm0 sm1 sm2 sm3 sm4 sm5 tk tk0 tk1 tk2 tk3 tk4 tp tr tr0 tr1 tr10 tr2 tr3 tr4 tr5 tr6 tr7 tr8 tr9 x0 : Nat} {a : Nat → Nat} (C0 : lw_At p s m meth c b 6 xs) (hZ : zE K V fz A s) (hA : ∀ q : Nat, s.heap.size ≤ q → A q) (hbA : ¬ A b) (hAf : ∀ q : Nat, A q → s.heap.size ≤ q) (he_1 : xs 1 = 1) (hK : va_K (dC, dI) vwCl [(cB, .byte), (cI, .int), (cJ, .long), (cZ, .boolean), (cS, .object "StreamQueries$Source"), (cO, .object "java/lang/Object")] s) {H : Heap} {locs : List Loc} {ls : Array Slot} (hP : va_P (dC, dI) vwCl [(x0, .inr (12, [.ref tp, .int 0, .ref sm, .ref tk, .int 0, .null, .null, .ref as, .ref bs, .ref cs, .ref ds, .int 0, .ref cr, .ref cy, .int 0, .ref tr])), (sm, .inr (8, [.int 0, .long (-9223372036854775808), .ref sm0, .ref sm1, .ref sm2, .ref sm3, .ref sm4, .ref sm5, .int 0])), (sm3, .inl (cB, 48, .inl (fun _ => 0))), (mo, .inr (13, moF a (fun _ => 0) (-9223372036854775808))), (a 6, .inl (cZ, 48, .inl (fun _ => 0)))] H) (hD : va_D A [(x0, .inr (12, [.ref tp, .int 0, .ref sm, .ref tk, .int 0, .null, .null, .ref as, .ref bs, .ref cs, .ref ds, .int 0, .ref cr, .ref cy, .int 0, .ref tr])), (sm, .inr (8, [.int 0, .long (-9223372036854775808), .ref sm0, .ref sm1, .ref sm2, .ref sm3, .ref sm4, .ref sm5, .int 0])), (sm3, .inl (cB, 48, .inl (fun _ => 0))), (mo, .inr (13, moF a (fun _ => 0) (-9223372036854775808))), (a 6, .inl (cZ, 48, .inl (fun _ => 0)))]) (hS : va_S A s.heap H locs) (hl : lv_has ls 4 [(0, .ref b), (1, .ref x0), (2, .ref mo), (3, .int 0)]) : W p l e room_1 s m #[Value.ref b] below meth c H locs 127 886803 (lw_Z below #[Value.ref b] s) (F0 m 727 ls []) := by
  obtain ⟨hx, hb, hr, hml, hown, hts, hX, hbl, hlocks, hgv⟩ := id C0
  refine lv_aload_n hx hb dL_law_727 rfl (lv_at hl 1 rfl) ?_
  refine lv_aload_n hx hb dL_law_728 rfl (lv_at hl 0 rfl) ?_
  refine lv_iload_n hx hb dL_law_729 rfl (lv_at hl 3 rfl) ?_
  refine lv_iconst (v := 1) hx hb dL_law_730 (by decide) ?_
  refine lv_iadd hx hb dL_law_731 ?_
  refine lv_topi (fun x_1 ex_1 => ?_)
  have ex_1 : x_1 = 1 := ex_1.trans (by decide)
  subst ex_1
  refine va_sld hx hb hX hbl hbA hS (i := 1) (vp_in_nI (n := 1) (N := 6) (by omega) (by omega)) dL_law_732 ?_
  refine lv_topi (fun x_2 ex_2 => ?_)
  have ex_2 : x_2 = xs 1 := ex_2.trans (congrArg xs (nI_clamp (n := 1) (by omega)))
  have ex_2 : x_2 = 1 := ex_2.trans he_1
  rw [ex_2]
  have hPc := hP.sub (ws' := [(x0, .inr (12, [.ref tp, .int 0, .ref sm, .ref tk, .int 0, .null, .null, .ref as, .ref bs, .ref cs, .ref ds, .int 0, .ref cr, .ref cy, .int 0, .ref tr])), (sm, .inr (8, [.int 0, .long (-9223372036854775808), .ref sm0, .ref sm1, .ref sm2, .ref sm3, .ref sm4, .ref sm5, .int 0])), (sm3, .inl (cB, 48, .inl (fun _ => 0)))]) [0, 1, 2] rfl
  have hDc := hD.sub (ws' := [(x0, .inr (12, [.ref tp, .int 0, .ref sm, .ref tk, .int 0, .null, .null, .ref as, .ref bs, .ref cs, .ref ds, .int 0, .ref cr, .ref cy, .int 0, .ref tr])), (sm, .inr (8, [.int 0, .long (-9223372036854775808), .ref sm0, .ref sm1, .ref sm2, .ref sm3, .ref sm4, .ref sm5, .int 0])), (sm3, .inl (cB, 48, .inl (fun _ => 0)))]) [0, 1, 2] (by decide) rfl
  have hKc := hK.sub (tys' := [(cB, .byte), (cI, .int), (cJ, .long), (cZ, .boolean)]) [0, 1, 2, 3] rfl
  have hFc := va_free (wc := [(x0, .inr (12, [.ref tp, .int 0, .ref sm, .ref tk, .int 0, .null, .null, .ref as, .ref bs, .ref cs, .ref ds, .int 0, .ref cr, .ref cy, .int 0, .ref tr])), (sm, .inr (8, [.int 0, .long (-9223372036854775808), .ref sm0, .ref sm1, .ref sm2, .ref sm3, .ref sm4, .ref sm5, .int 0])), (sm3, .inl (cB, 48, .inl (fun _ => 0)))]) hD hS hA [0, 1, 2] rfl
  refine va_calli (va_runV (As := [.int 1]) (rest := []) ⟨hx, hb, hml, hown, hts⟩ (t_X11_told_1 l dC dI H.size cB cI cJ cZ x0 sm (.ref tp) (.ref tk) .null (.ref as) (.ref bs) (.ref cs) (.ref ds) (.ref cr) (.ref cy) (.ref tr) 0 0 0 0 sm3 0 (fun _ => 0) (-9223372036854775808) (.ref sm0) (.ref sm1) (.ref sm2) (.ref sm4) (.ref sm5) 0) (cwV 1 hts (gd_law (in_V kw_1670 kw_1671 kw_1672 kw_181 kc_X11_told)) rfl rfl rfl (by decide +kernel) ⟨Nat.le_of_ble_eq_true rfl, Nat.le_of_ble_eq_true rfl⟩) ⟨fun a U g mk q => by obtain ⟨q0, q1, qP, qK, qD⟩ := q; exact ⟨q0, q1, qP, va_K.moved (u := U) (U := U.calling g mk a) (Vm.Alike.refl U.vm) qK, qD⟩, va_recv hKc hPc (ci := 12) (q0 := 0) rfl rfl, fun U hU hW => ⟨rfl, by rw [hU], by rw [hU]; exact hPc, va_K.moved hW.alike hKc, hDc.weaken (fun _ _ _ _ => trivial)⟩⟩ rfl rfl hl.1 rfl (lv_room (Nat.le_of_ble_eq_true rfl)) dL_law_733 ⟨Nat.le_of_ble_eq_true rfl, Nat.le_of_ble_eq_true rfl⟩) hS (fun q _ h => hFc q h) hFc (fun r_3 u t_ H1 locs ht hvm hw hB hz1 hk1 hS => ?_)
  obtain ⟨hP1, hK1, hD1⟩ := hB
  rw [ht] at hP1
  have hK1 := va_K.moved hvm.symm hK1
  obtain ⟨hP, hD⟩ := va_join (wr := [(mo, .inr (13, moF a (fun _ => 0) (-9223372036854775808))), (a 6, .inl (cZ, 48, .inl (fun _ => 0)))]) (w1 := [(x0, .inr (12, [.ref tp, .int 0, .ref sm, .ref tk, .int 0, .null, .null, .ref as, .ref bs, .ref cs, .ref ds, .int 0, .ref cr, .ref cy, .int 0, .ref tr])), (sm, .inr (8, [.int 0, .long (-9223372036854775808), .ref sm0, .ref sm1, .ref sm2, .ref sm3, .ref sm4, .ref sm5, .int 0])), (sm3, .inl (cB, 48, .inl (fun _ => 0)))]) hP hD [0, 1, 2] [3, 4] rfl rfl (by decide) (by decide) hk1 hFc hP1 hD1
  have hK := (hK.sub (tys' := [(cS, .object "StreamQueries$Source"), (cO, .object "java/lang/Object")]) [4, 5] rfl).app hK1
  generalize H1 = H at hP hS ⊢
  have hP : va_P (dC, dI) vwCl [(mo, .inr (13, moF a (fun _ => 0) (-9223372036854775808))), (a 6, .inl (cZ, 48, .inl (fun _ => 0))), (x0, .inr (12, [.ref tp, .int 0, .ref sm, .ref tk, .int 0, .null, .null, .ref as, .ref bs, .ref cs, .ref ds, .int 0, .ref cr, .ref cy, .int 0, .ref tr])), (sm, .inr (8, [.int 0, .long (-9223372036854775808), .ref sm0, .ref sm1, .ref sm2, .ref sm3, .ref sm4, .ref sm5, .int 0])), (sm3, .inl (cB, 48, .inl (fun _ => 0)))] H := hP
  have hD : va_D A [(mo, .inr (13, moF a (fun _ => 0) (-9223372036854775808))), (a 6, .inl (cZ, 48, .inl (fun _ => 0))), (x0, .inr (12, [.ref tp, .int 0, .ref sm, .ref tk, .int 0, .null, .null, .ref as, .ref bs, .ref cs, .ref ds, .int 0, .ref cr, .ref cy, .int 0, .ref tr])), (sm, .inr (8, [.int 0, .long (-9223372036854775808), .ref sm0, .ref sm1, .ref sm2, .ref sm3, .ref sm4, .ref sm5, .int 0])), (sm3, .inl (cB, 48, .inl (fun _ => 0)))] := hD
  have hK : va_K (dC, dI) vwCl [(cS, .object "StreamQueries$Source"), (cO, .object "java/lang/Object"), (cB, .byte), (cI, .int), (cJ, .long), (cZ, .boolean)] s := hK
  have er_3 : r_3 = 0 := hw.trans (by decide)
  rw [er_3]
  refine lv_aload_n hx hb dL_law_736 rfl (lv_at hl 2 rfl) ?_
  refine lv_aload_n hx hb dL_law_737 rfl (lv_at hl 0 rfl) ?_
  refine lv_iload_n hx hb dL_law_738 rfl (lv_at hl 3 rfl) ?_
  refine lv_iconst (v := 1) hx hb dL_law_739 (by decide) ?_
  refine lv_iadd hx hb dL_law_740 ?_
  refine lv_topi (fun x_4 ex_4 => ?_)
  have ex_4 : x_4 = 1 := ex_4.trans (by decide)
  subst ex_4
  refine va_sld hx hb hX hbl hbA hS (i := 1) (vp_in_nI (n := 1) (N := 6) (by omega) (by omega)) dL_law_741 ?_
  refine lv_topi (fun x_5 ex_5 => ?_)
  have ex_5 : x_5 = xs 1 := ex_5.trans (congrArg xs (nI_clamp (n := 1) (by omega)))
  have ex_5 : x_5 = 1 := ex_5.trans he_1
  rw [ex_5]
  have hPc := hP.sub (ws' := [(mo, .inr (13, moF a (fun _ => 0) (-9223372036854775808))), (a 6, .inl (cZ, 48, .inl (fun _ => 0)))]) [0, 1] rfl
  have hDc := hD.sub (ws' := [(mo, .inr (13, moF a (fun _ => 0) (-9223372036854775808))), (a 6, .inl (cZ, 48, .inl (fun _ => 0)))]) [0, 1] (by decide) rfl
  have hKc := hK.sub (tys' := [(cB, .byte), (cI, .int), (cJ, .long), (cZ, .boolean)]) [2, 3, 4, 5] rfl
  have hFc := va_free (wc := [(mo, .inr (13, moF a (fun _ => 0) (-9223372036854775808))), (a 6, .inl (cZ, 48, .inl (fun _ => 0)))]) hD hS hA [0, 1] rfl
  refine va_calli (va_runV (As := [.int 1]) (rest := [.int 0]) ⟨hx, hb, hml, hown, hts⟩ (t_X12_told_1 l dC dI H.size cB cI cJ cZ mo a (fun _ => 0) (-9223372036854775808) (fun _ => 0)) (cwV 1 hts (gd_law (in_V kw_2504 kw_2505 kw_2506 kw_191 kc_X12_told)) rfl rfl rfl (by decide +kernel) ⟨Nat.le_of_ble_eq_true rfl, Nat.le_of_ble_eq_true rfl⟩) ⟨fun a U g mk q => by obtain ⟨q0, q1, qP, qK, qD⟩ := q; exact ⟨q0, q1, qP, va_K.moved (u := U) (U := U.calling g mk a) (Vm.Alike.refl U.vm) qK, qD⟩, va_recv hKc hPc (ci := 13) (q0 := 0) rfl rfl, fun U hU hW => ⟨rfl, by rw [hU], by rw [hU]; exact hPc, va_K.moved hW.alike hKc, hDc.weaken (fun _ _ _ _ => trivial)⟩⟩ rfl rfl hl.1 rfl (lv_room (Nat.le_of_ble_eq_true rfl)) dL_law_742 ⟨Nat.le_of_ble_eq_true rfl, Nat.le_of_ble_eq_true rfl⟩) hS (fun q _ h => hFc q h) hFc (fun r_6 u t_ H1 locs ht hvm hw hB hz1 hk1 hS => ?_)
  obtain ⟨hP1, hK1, hD1⟩ := hB
  rw [ht] at hP1
  have hK1 := va_K.moved hvm.symm hK1
  obtain ⟨hP, hD⟩ := va_join (wr := [(x0, .inr (12, [.ref tp, .int 0, .ref sm, .ref tk, .int 0, .null, .null, .ref as, .ref bs, .ref cs, .ref ds, .int 0, .ref cr, .ref cy, .int 0, .ref tr])), (sm, .inr (8, [.int 0, .long (-9223372036854775808), .ref sm0, .ref sm1, .ref sm2, .ref sm3, .ref sm4, .ref sm5, .int 0])), (sm3, .inl (cB, 48, .inl (fun _ => 0)))]) (w1 := [(mo, .inr (13, moF a (fun _ => 0) (-9223372036854775808))), (a 6, .inl (cZ, 48, .inl (fun _ => 0)))]) hP hD [0, 1] [2, 3, 4] rfl rfl (by decide) (by decide) hk1 hFc hP1 hD1
  have hK := (hK.sub (tys' := [(cS, .object "StreamQueries$Source"), (cO, .object "java/lang/Object")]) [0, 1] rfl).app hK1
  generalize H1 = H at hP hS ⊢
  have hP : va_P (dC, dI) vwCl [(x0, .inr (12, [.ref tp, .int 0, .ref sm, .ref tk, .int 0, .null, .null, .ref as, .ref bs, .ref cs, .ref ds, .int 0, .ref cr, .ref cy, .int 0, .ref tr])), (sm, .inr (8, [.int 0, .long (-9223372036854775808), .ref sm0, .ref sm1, .ref sm2, .ref sm3, .ref sm4, .ref sm5, .int 0])), (sm3, .inl (cB, 48, .inl (fun _ => 0))), (mo, .inr (13, moF a (fun _ => 0) (-9223372036854775808))), (a 6, .inl (cZ, 48, .inl (fun _ => 0)))] H := hP
  have hD : va_D A [(x0, .inr (12, [.ref tp, .int 0, .ref sm, .ref tk, .int 0, .null, .null, .ref as, .ref bs, .ref cs, .ref ds, .int 0, .ref cr, .ref cy, .int 0, .ref tr])), (sm, .inr (8, [.int 0, .long (-9223372036854775808), .ref sm0, .ref sm1, .ref sm2, .ref sm3, .ref sm4, .ref sm5, .int 0])), (sm3, .inl (cB, 48, .inl (fun _ => 0))), (mo, .inr (13, moF a (fun _ => 0) (-9223372036854775808))), (a 6, .inl (cZ, 48, .inl (fun _ => 0)))] := hD
  have hK : va_K (dC, dI) vwCl [(cS, .object "StreamQueries$Source"), (cO, .object "java/lang/Object"), (cB, .byte), (cI, .int), (cJ, .long), (cZ, .boolean)] s := hK
  have er_6 : r_6 = 0 := hw.trans (by decide)
  rw [er_6]
  refine lv_icmp_eq (tgt := 750) hx hb dL_law_745 (by decide) (fun c_7 => ?_) (fun c_7 => ?_)
  · skip
    exact law_tail C0 hA hbA hAf (Nat.le_of_ble_eq_true rfl) (Nat.le_of_ble_eq_true rfl) hS (lv_sub hl [0, 1, 2, 3] rfl)
  · skip
    exact absurd c_7 (by decide)
set_option maxHeartbeats 4000000 in
set_option maxRecDepth 100000 in
theorem lc_19_2 {p : Program} {l : Launch} {e : Env} {s : State} {m : MethodId} {below : List Frame} {meth : Method} {c : Code} {dC : Nat → ClassId} {dI : Nat → Nat → Nat} {cB cI cJ cZ cS cO : ClassId} {b : Nat} {xs : Nat → Int32} {K V : Nat → Nat} {fz : Value} {A : Nat → Prop} {as as0 as1 as2 as3 bs bs0 bs1 bs2 bs3 cr cs cs0 cs1 cs2 cs3 cy ds ds0 ds1 ds2 ds3 mo sm sm0 sm1 sm2 sm3 sm4 sm5 tk tk0 tk1 tk2 tk3 tk4 tp tr tr0 tr1 tr10 tr2 tr3 tr4 tr5 tr6 tr7 tr8 tr9 x0 : Nat} {a : Nat → Nat} (C0 : lw_At p s m meth c b 6 xs) (hZ : zE K V fz A s) (hA : ∀ q : Nat, s.heap.size ≤ q → A q) (hbA : ¬ A b) (hAf : ∀ q : Nat, A q → s.heap.size ≤ q) (he_1 : xs 1 = 2) (hK : va_K (dC, dI) vwCl [(cB, .byte), (cI, .int), (cJ, .long), (cZ, .boolean), (cS, .object "StreamQueries$Source"), (cO, .object "java/lang/Object")] s) {H : Heap} {locs : List Loc} {ls : Array Slot} (hP : va_P (dC, dI) vwCl [(x0, .inr (12, [.ref tp, .int 0, .ref sm, .ref tk, .int 0, .null, .null, .ref as, .ref bs, .ref cs, .ref ds, .int 0, .ref cr, .ref cy, .int 0, .ref tr])), (mo, .inr (13, moF a (fun _ => 0) (-9223372036854775808)))] H) (hD : va_D A [(x0, .inr (12, [.ref tp, .int 0, .ref sm, .ref tk, .int 0, .null, .null, .ref as, .ref bs, .ref cs, .ref ds, .int 0, .ref cr, .ref cy, .int 0, .ref tr])), (mo, .inr (13, moF a (fun _ => 0) (-9223372036854775808)))]) (hS : va_S A s.heap H locs) (hl : lv_has ls 4 [(0, .ref b), (1, .ref x0), (2, .ref mo), (3, .int 0)]) : W p l e room_1 s m #[Value.ref b] below meth c H locs 127 886803 (lw_Z below #[Value.ref b] s) (F0 m 727 ls []) := by
  obtain ⟨hx, hb, hr, hml, hown, hts, hX, hbl, hlocks, hgv⟩ := id C0
  refine lv_aload_n hx hb dL_law_727 rfl (lv_at hl 1 rfl) ?_
  refine lv_aload_n hx hb dL_law_728 rfl (lv_at hl 0 rfl) ?_
  refine lv_iload_n hx hb dL_law_729 rfl (lv_at hl 3 rfl) ?_
  refine lv_iconst (v := 1) hx hb dL_law_730 (by decide) ?_
  refine lv_iadd hx hb dL_law_731 ?_
  refine lv_topi (fun x_1 ex_1 => ?_)
  have ex_1 : x_1 = 1 := ex_1.trans (by decide)
  subst ex_1
  refine va_sld hx hb hX hbl hbA hS (i := 1) (vp_in_nI (n := 1) (N := 6) (by omega) (by omega)) dL_law_732 ?_
  refine lv_topi (fun x_2 ex_2 => ?_)
  have ex_2 : x_2 = xs 1 := ex_2.trans (congrArg xs (nI_clamp (n := 1) (by omega)))
  have ex_2 : x_2 = 2 := ex_2.trans he_1
  rw [ex_2]
  have hPc := hP.sub (ws' := [(x0, .inr (12, [.ref tp, .int 0, .ref sm, .ref tk, .int 0, .null, .null, .ref as, .ref bs, .ref cs, .ref ds, .int 0, .ref cr, .ref cy, .int 0, .ref tr]))]) [0] rfl
  have hDc := hD.sub (ws' := [(x0, .inr (12, [.ref tp, .int 0, .ref sm, .ref tk, .int 0, .null, .null, .ref as, .ref bs, .ref cs, .ref ds, .int 0, .ref cr, .ref cy, .int 0, .ref tr]))]) [0] (by decide) rfl
  have hKc := hK.sub (tys' := [(cB, .byte), (cI, .int), (cJ, .long), (cZ, .boolean)]) [0, 1, 2, 3] rfl
  have hFc := va_free (wc := [(x0, .inr (12, [.ref tp, .int 0, .ref sm, .ref tk, .int 0, .null, .null, .ref as, .ref bs, .ref cs, .ref ds, .int 0, .ref cr, .ref cy, .int 0, .ref tr]))]) hD hS hA [0] rfl
  refine va_calli (va_runV (As := [.int 2]) (rest := []) ⟨hx, hb, hml, hown, hts⟩ (t_X11_told_2 l dC dI H.size cB cI cJ cZ x0 sm (.ref tp) (.ref tk) .null (.ref as) (.ref bs) (.ref cs) (.ref ds) (.ref cr) (.ref cy) (.ref tr) 0 0 0 0) (cwV 1 hts (gd_law (in_V kw_1670 kw_1671 kw_1672 kw_181 kc_X11_told)) rfl rfl rfl (by decide +kernel) ⟨Nat.le_of_ble_eq_true rfl, Nat.le_of_ble_eq_true rfl⟩) ⟨fun a U g mk q => by obtain ⟨q0, q1, qP, qK, qD⟩ := q; exact ⟨q0, q1, qP, va_K.moved (u := U) (U := U.calling g mk a) (Vm.Alike.refl U.vm) qK, qD⟩, va_recv hKc hPc (ci := 12) (q0 := 0) rfl rfl, fun U hU hW => ⟨rfl, by rw [hU], by rw [hU]; exact hPc, va_K.moved hW.alike hKc, hDc.weaken (fun _ _ _ _ => trivial)⟩⟩ rfl rfl hl.1 rfl (lv_room (Nat.le_of_ble_eq_true rfl)) dL_law_733 ⟨Nat.le_of_ble_eq_true rfl, Nat.le_of_ble_eq_true rfl⟩) hS (fun q _ h => hFc q h) hFc (fun r_3 u t_ H1 locs ht hvm hw hB hz1 hk1 hS => ?_)
  obtain ⟨hP1, hK1, hD1⟩ := hB
  rw [ht] at hP1
  have hK1 := va_K.moved hvm.symm hK1
  obtain ⟨hP, hD⟩ := va_join (wr := [(mo, .inr (13, moF a (fun _ => 0) (-9223372036854775808)))]) (w1 := [(x0, .inr (12, [.ref tp, .int 0, .ref sm, .ref tk, .int 0, .null, .null, .ref as, .ref bs, .ref cs, .ref ds, .int 0, .ref cr, .ref cy, .int 0, .ref tr]))]) hP hD [0] [1] rfl rfl (by decide) (by decide) hk1 hFc hP1 hD1
  have hK := (hK.sub (tys' := [(cS, .object "StreamQueries$Source"), (cO, .object "java/lang/Object")]) [4, 5] rfl).app hK1
  generalize H1 = H at hP hS ⊢
  have hP : va_P (dC, dI) vwCl [(mo, .inr (13, moF a (fun _ => 0) (-9223372036854775808))), (x0, .inr (12, [.ref tp, .int 0, .ref sm, .ref tk, .int 0, .null, .null, .ref as, .ref bs, .ref cs, .ref ds, .int 0, .ref cr, .ref cy, .int 0, .ref tr]))] H := hP
  have hD : va_D A [(mo, .inr (13, moF a (fun _ => 0) (-9223372036854775808))), (x0, .inr (12, [.ref tp, .int 0, .ref sm, .ref tk, .int 0, .null, .null, .ref as, .ref bs, .ref cs, .ref ds, .int 0, .ref cr, .ref cy, .int 0, .ref tr]))] := hD
  have hK : va_K (dC, dI) vwCl [(cS, .object "StreamQueries$Source"), (cO, .object "java/lang/Object"), (cB, .byte), (cI, .int), (cJ, .long), (cZ, .boolean)] s := hK
  have er_3 : r_3 = 0 := hw
  rw [er_3]
  refine lv_aload_n hx hb dL_law_736 rfl (lv_at hl 2 rfl) ?_
  refine lv_aload_n hx hb dL_law_737 rfl (lv_at hl 0 rfl) ?_
  refine lv_iload_n hx hb dL_law_738 rfl (lv_at hl 3 rfl) ?_
  refine lv_iconst (v := 1) hx hb dL_law_739 (by decide) ?_
  refine lv_iadd hx hb dL_law_740 ?_
  refine lv_topi (fun x_4 ex_4 => ?_)
  have ex_4 : x_4 = 1 := ex_4.trans (by decide)
  subst ex_4
  refine va_sld hx hb hX hbl hbA hS (i := 1) (vp_in_nI (n := 1) (N := 6) (by omega) (by omega)) dL_law_741 ?_
  refine lv_topi (fun x_5 ex_5 => ?_)
  have ex_5 : x_5 = xs 1 := ex_5.trans (congrArg xs (nI_clamp (n := 1) (by omega)))
  have ex_5 : x_5 = 2 := ex_5.trans he_1
  rw [ex_5]
  have hPc := hP.sub (ws' := [(mo, .inr (13, moF a (fun _ => 0) (-9223372036854775808)))]) [0] rfl
  have hDc := hD.sub (ws' := [(mo, .inr (13, moF a (fun _ => 0) (-9223372036854775808)))]) [0] (by decide) rfl
  have hKc := hK.sub (tys' := [(cB, .byte), (cI, .int), (cJ, .long), (cZ, .boolean)]) [2, 3, 4, 5] rfl
  have hFc := va_free (wc := [(mo, .inr (13, moF a (fun _ => 0) (-9223372036854775808)))]) hD hS hA [0] rfl
  refine va_calli (va_runV (As := [.int 2]) (rest := [.int 0]) ⟨hx, hb, hml, hown, hts⟩ (t_X12_told_2 l dC dI H.size cB cI cJ cZ mo a (fun _ => 0) (-9223372036854775808) rfl) (cwV 1 hts (gd_law (in_V kw_2504 kw_2505 kw_2506 kw_191 kc_X12_told)) rfl rfl rfl (by decide +kernel) ⟨Nat.le_of_ble_eq_true rfl, Nat.le_of_ble_eq_true rfl⟩) ⟨fun a U g mk q => by obtain ⟨q0, q1, qP, qK, qD⟩ := q; exact ⟨q0, q1, qP, va_K.moved (u := U) (U := U.calling g mk a) (Vm.Alike.refl U.vm) qK, qD⟩, va_recv hKc hPc (ci := 13) (q0 := 0) rfl rfl, fun U hU hW => ⟨rfl, by rw [hU], by rw [hU]; exact hPc, va_K.moved hW.alike hKc, hDc.weaken (fun _ _ _ _ => trivial)⟩⟩ rfl rfl hl.1 rfl (lv_room (Nat.le_of_ble_eq_true rfl)) dL_law_742 ⟨Nat.le_of_ble_eq_true rfl, Nat.le_of_ble_eq_true rfl⟩) hS (fun q _ h => hFc q h) hFc (fun r_6 u t_ H1 locs ht hvm hw hB hz1 hk1 hS => ?_)
  obtain ⟨hP1, hK1, hD1⟩ := hB
  rw [ht] at hP1
  have hK1 := va_K.moved hvm.symm hK1
  obtain ⟨hP, hD⟩ := va_join (wr := [(x0, .inr (12, [.ref tp, .int 0, .ref sm, .ref tk, .int 0, .null, .null, .ref as, .ref bs, .ref cs, .ref ds, .int 0, .ref cr, .ref cy, .int 0, .ref tr]))]) (w1 := [(mo, .inr (13, moF a (fun _ => 0) (-9223372036854775808)))]) hP hD [0] [1] rfl rfl (by decide) (by decide) hk1 hFc hP1 hD1
  have hK := (hK.sub (tys' := [(cS, .object "StreamQueries$Source"), (cO, .object "java/lang/Object")]) [0, 1] rfl).app hK1
  generalize H1 = H at hP hS ⊢
  have hP : va_P (dC, dI) vwCl [(x0, .inr (12, [.ref tp, .int 0, .ref sm, .ref tk, .int 0, .null, .null, .ref as, .ref bs, .ref cs, .ref ds, .int 0, .ref cr, .ref cy, .int 0, .ref tr])), (mo, .inr (13, moF a (fun _ => 0) (-9223372036854775808)))] H := hP
  have hD : va_D A [(x0, .inr (12, [.ref tp, .int 0, .ref sm, .ref tk, .int 0, .null, .null, .ref as, .ref bs, .ref cs, .ref ds, .int 0, .ref cr, .ref cy, .int 0, .ref tr])), (mo, .inr (13, moF a (fun _ => 0) (-9223372036854775808)))] := hD
  have hK : va_K (dC, dI) vwCl [(cS, .object "StreamQueries$Source"), (cO, .object "java/lang/Object"), (cB, .byte), (cI, .int), (cJ, .long), (cZ, .boolean)] s := hK
  have er_6 : r_6 = 0 := hw
  rw [er_6]
  refine lv_icmp_eq (tgt := 750) hx hb dL_law_745 (by decide) (fun c_7 => ?_) (fun c_7 => ?_)
  · skip
    exact law_tail C0 hA hbA hAf (Nat.le_of_ble_eq_true rfl) (Nat.le_of_ble_eq_true rfl) hS (lv_sub hl [0, 1, 2, 3] rfl)
  · skip
    exact absurd c_7 (by decide)
set_option maxHeartbeats 4000000 in
set_option maxRecDepth 100000 in
theorem lc_19_3 {p : Program} {l : Launch} {e : Env} {s : State} {m : MethodId} {below : List Frame} {meth : Method} {c : Code} {dC : Nat → ClassId} {dI : Nat → Nat → Nat} {cB cI cJ cZ cS cO : ClassId} {b : Nat} {xs : Nat → Int32} {K V : Nat → Nat} {fz : Value} {A : Nat → Prop} {as as0 as1 as2 as3 bs bs0 bs1 bs2 bs3 cr cs cs0 cs1 cs2 cs3 cy ds ds0 ds1 ds2 ds3 mo sm sm0 sm1 sm2 sm3 sm4 sm5 tk tk0 tk1 tk2 tk3 tk4 tp tr tr0 tr1 tr10 tr2 tr3 tr4 tr5 tr6 tr7 tr8 tr9 x0 : Nat} {a : Nat → Nat} (C0 : lw_At p s m meth c b 6 xs) (hZ : zE K V fz A s) (hA : ∀ q : Nat, s.heap.size ≤ q → A q) (hbA : ¬ A b) (hAf : ∀ q : Nat, A q → s.heap.size ≤ q) (he_1 : xs 1 = 3) (hK : va_K (dC, dI) vwCl [(cB, .byte), (cI, .int), (cJ, .long), (cZ, .boolean), (cS, .object "StreamQueries$Source"), (cO, .object "java/lang/Object")] s) {H : Heap} {locs : List Loc} {ls : Array Slot} (hP : va_P (dC, dI) vwCl [(x0, .inr (12, [.ref tp, .int 0, .ref sm, .ref tk, .int 0, .null, .null, .ref as, .ref bs, .ref cs, .ref ds, .int 0, .ref cr, .ref cy, .int 0, .ref tr])), (mo, .inr (13, moF a (fun _ => 0) (-9223372036854775808)))] H) (hD : va_D A [(x0, .inr (12, [.ref tp, .int 0, .ref sm, .ref tk, .int 0, .null, .null, .ref as, .ref bs, .ref cs, .ref ds, .int 0, .ref cr, .ref cy, .int 0, .ref tr])), (mo, .inr (13, moF a (fun _ => 0) (-9223372036854775808)))]) (hS : va_S A s.heap H locs) (hl : lv_has ls 4 [(0, .ref b), (1, .ref x0), (2, .ref mo), (3, .int 0)]) : W p l e room_1 s m #[Value.ref b] below meth c H locs 127 886803 (lw_Z below #[Value.ref b] s) (F0 m 727 ls []) := by
  obtain ⟨hx, hb, hr, hml, hown, hts, hX, hbl, hlocks, hgv⟩ := id C0
  refine lv_aload_n hx hb dL_law_727 rfl (lv_at hl 1 rfl) ?_
  refine lv_aload_n hx hb dL_law_728 rfl (lv_at hl 0 rfl) ?_
  refine lv_iload_n hx hb dL_law_729 rfl (lv_at hl 3 rfl) ?_
  refine lv_iconst (v := 1) hx hb dL_law_730 (by decide) ?_
  refine lv_iadd hx hb dL_law_731 ?_
  refine lv_topi (fun x_1 ex_1 => ?_)
  have ex_1 : x_1 = 1 := ex_1.trans (by decide)
  subst ex_1
  refine va_sld hx hb hX hbl hbA hS (i := 1) (vp_in_nI (n := 1) (N := 6) (by omega) (by omega)) dL_law_732 ?_
  refine lv_topi (fun x_2 ex_2 => ?_)
  have ex_2 : x_2 = xs 1 := ex_2.trans (congrArg xs (nI_clamp (n := 1) (by omega)))
  have ex_2 : x_2 = 3 := ex_2.trans he_1
  rw [ex_2]
  have hPc := hP.sub (ws' := [(x0, .inr (12, [.ref tp, .int 0, .ref sm, .ref tk, .int 0, .null, .null, .ref as, .ref bs, .ref cs, .ref ds, .int 0, .ref cr, .ref cy, .int 0, .ref tr]))]) [0] rfl
  have hDc := hD.sub (ws' := [(x0, .inr (12, [.ref tp, .int 0, .ref sm, .ref tk, .int 0, .null, .null, .ref as, .ref bs, .ref cs, .ref ds, .int 0, .ref cr, .ref cy, .int 0, .ref tr]))]) [0] (by decide) rfl
  have hKc := hK.sub (tys' := [(cB, .byte), (cI, .int), (cJ, .long), (cZ, .boolean)]) [0, 1, 2, 3] rfl
  have hFc := va_free (wc := [(x0, .inr (12, [.ref tp, .int 0, .ref sm, .ref tk, .int 0, .null, .null, .ref as, .ref bs, .ref cs, .ref ds, .int 0, .ref cr, .ref cy, .int 0, .ref tr]))]) hD hS hA [0] rfl
  refine va_calli (va_runV (As := [.int 3]) (rest := []) ⟨hx, hb, hml, hown, hts⟩ (t_X11_told_3 l dC dI H.size cB cI cJ cZ x0 sm (.ref tp) (.ref tk) .null (.ref as) (.ref bs) (.ref cs) (.ref ds) (.ref cr) (.ref cy) (.ref tr) 0 0 0 0) (cwV 1 hts (gd_law (in_V kw_1670 kw_1671 kw_1672 kw_181 kc_X11_told)) rfl rfl rfl (by decide +kernel) ⟨Nat.le_of_ble_eq_true rfl, Nat.le_of_ble_eq_true rfl⟩) ⟨fun a U g mk q => by obtain ⟨q0, q1, qP, qK, qD⟩ := q; exact ⟨q0, q1, qP, va_K.moved (u := U) (U := U.calling g mk a) (Vm.Alike.refl U.vm) qK, qD⟩, va_recv hKc hPc (ci := 12) (q0 := 0) rfl rfl, fun U hU hW => ⟨rfl, by rw [hU], by rw [hU]; exact hPc, va_K.moved hW.alike hKc, hDc.weaken (fun _ _ _ _ => trivial)⟩⟩ rfl rfl hl.1 rfl (lv_room (Nat.le_of_ble_eq_true rfl)) dL_law_733 ⟨Nat.le_of_ble_eq_true rfl, Nat.le_of_ble_eq_true rfl⟩) hS (fun q _ h => hFc q h) hFc (fun r_3 u t_ H1 locs ht hvm hw hB hz1 hk1 hS => ?_)
  obtain ⟨hP1, hK1, hD1⟩ := hB
  rw [ht] at hP1
  have hK1 := va_K.moved hvm.symm hK1
  obtain ⟨hP, hD⟩ := va_join (wr := [(mo, .inr (13, moF a (fun _ => 0) (-9223372036854775808)))]) (w1 := [(x0, .inr (12, [.ref tp, .int 0, .ref sm, .ref tk, .int 0, .null, .null, .ref as, .ref bs, .ref cs, .ref ds, .int 0, .ref cr, .ref cy, .int 0, .ref tr]))]) hP hD [0] [1] rfl rfl (by decide) (by decide) hk1 hFc hP1 hD1
  have hK := (hK.sub (tys' := [(cS, .object "StreamQueries$Source"), (cO, .object "java/lang/Object")]) [4, 5] rfl).app hK1
  generalize H1 = H at hP hS ⊢
  have hP : va_P (dC, dI) vwCl [(mo, .inr (13, moF a (fun _ => 0) (-9223372036854775808))), (x0, .inr (12, [.ref tp, .int 0, .ref sm, .ref tk, .int 0, .null, .null, .ref as, .ref bs, .ref cs, .ref ds, .int 0, .ref cr, .ref cy, .int 0, .ref tr]))] H := hP
  have hD : va_D A [(mo, .inr (13, moF a (fun _ => 0) (-9223372036854775808))), (x0, .inr (12, [.ref tp, .int 0, .ref sm, .ref tk, .int 0, .null, .null, .ref as, .ref bs, .ref cs, .ref ds, .int 0, .ref cr, .ref cy, .int 0, .ref tr]))] := hD
  have hK : va_K (dC, dI) vwCl [(cS, .object "StreamQueries$Source"), (cO, .object "java/lang/Object"), (cB, .byte), (cI, .int), (cJ, .long), (cZ, .boolean)] s := hK
  have er_3 : r_3 = 0 := hw
  rw [er_3]
  refine lv_aload_n hx hb dL_law_736 rfl (lv_at hl 2 rfl) ?_
  refine lv_aload_n hx hb dL_law_737 rfl (lv_at hl 0 rfl) ?_
  refine lv_iload_n hx hb dL_law_738 rfl (lv_at hl 3 rfl) ?_
  refine lv_iconst (v := 1) hx hb dL_law_739 (by decide) ?_
  refine lv_iadd hx hb dL_law_740 ?_
  refine lv_topi (fun x_4 ex_4 => ?_)
  have ex_4 : x_4 = 1 := ex_4.trans (by decide)
  subst ex_4
  refine va_sld hx hb hX hbl hbA hS (i := 1) (vp_in_nI (n := 1) (N := 6) (by omega) (by omega)) dL_law_741 ?_
  refine lv_topi (fun x_5 ex_5 => ?_)
  have ex_5 : x_5 = xs 1 := ex_5.trans (congrArg xs (nI_clamp (n := 1) (by omega)))
  have ex_5 : x_5 = 3 := ex_5.trans he_1
  rw [ex_5]
  have hPc := hP.sub (ws' := [(mo, .inr (13, moF a (fun _ => 0) (-9223372036854775808)))]) [0] rfl
  have hDc := hD.sub (ws' := [(mo, .inr (13, moF a (fun _ => 0) (-9223372036854775808)))]) [0] (by decide) rfl
  have hKc := hK.sub (tys' := [(cB, .byte), (cI, .int), (cJ, .long), (cZ, .boolean)]) [2, 3, 4, 5] rfl
  have hFc := va_free (wc := [(mo, .inr (13, moF a (fun _ => 0) (-9223372036854775808)))]) hD hS hA [0] rfl
  refine va_calli (va_runV (As := [.int 3]) (rest := [.int 0]) ⟨hx, hb, hml, hown, hts⟩ (t_X12_told_3 l dC dI H.size cB cI cJ cZ mo a (fun _ => 0) (-9223372036854775808) rfl) (cwV 1 hts (gd_law (in_V kw_2504 kw_2505 kw_2506 kw_191 kc_X12_told)) rfl rfl rfl (by decide +kernel) ⟨Nat.le_of_ble_eq_true rfl, Nat.le_of_ble_eq_true rfl⟩) ⟨fun a U g mk q => by obtain ⟨q0, q1, qP, qK, qD⟩ := q; exact ⟨q0, q1, qP, va_K.moved (u := U) (U := U.calling g mk a) (Vm.Alike.refl U.vm) qK, qD⟩, va_recv hKc hPc (ci := 13) (q0 := 0) rfl rfl, fun U hU hW => ⟨rfl, by rw [hU], by rw [hU]; exact hPc, va_K.moved hW.alike hKc, hDc.weaken (fun _ _ _ _ => trivial)⟩⟩ rfl rfl hl.1 rfl (lv_room (Nat.le_of_ble_eq_true rfl)) dL_law_742 ⟨Nat.le_of_ble_eq_true rfl, Nat.le_of_ble_eq_true rfl⟩) hS (fun q _ h => hFc q h) hFc (fun r_6 u t_ H1 locs ht hvm hw hB hz1 hk1 hS => ?_)
  obtain ⟨hP1, hK1, hD1⟩ := hB
  rw [ht] at hP1
  have hK1 := va_K.moved hvm.symm hK1
  obtain ⟨hP, hD⟩ := va_join (wr := [(x0, .inr (12, [.ref tp, .int 0, .ref sm, .ref tk, .int 0, .null, .null, .ref as, .ref bs, .ref cs, .ref ds, .int 0, .ref cr, .ref cy, .int 0, .ref tr]))]) (w1 := [(mo, .inr (13, moF a (fun _ => 0) (-9223372036854775808)))]) hP hD [0] [1] rfl rfl (by decide) (by decide) hk1 hFc hP1 hD1
  have hK := (hK.sub (tys' := [(cS, .object "StreamQueries$Source"), (cO, .object "java/lang/Object")]) [0, 1] rfl).app hK1
  generalize H1 = H at hP hS ⊢
  have hP : va_P (dC, dI) vwCl [(x0, .inr (12, [.ref tp, .int 0, .ref sm, .ref tk, .int 0, .null, .null, .ref as, .ref bs, .ref cs, .ref ds, .int 0, .ref cr, .ref cy, .int 0, .ref tr])), (mo, .inr (13, moF a (fun _ => 0) (-9223372036854775808)))] H := hP
  have hD : va_D A [(x0, .inr (12, [.ref tp, .int 0, .ref sm, .ref tk, .int 0, .null, .null, .ref as, .ref bs, .ref cs, .ref ds, .int 0, .ref cr, .ref cy, .int 0, .ref tr])), (mo, .inr (13, moF a (fun _ => 0) (-9223372036854775808)))] := hD
  have hK : va_K (dC, dI) vwCl [(cS, .object "StreamQueries$Source"), (cO, .object "java/lang/Object"), (cB, .byte), (cI, .int), (cJ, .long), (cZ, .boolean)] s := hK
  have er_6 : r_6 = 0 := hw
  rw [er_6]
  refine lv_icmp_eq (tgt := 750) hx hb dL_law_745 (by decide) (fun c_7 => ?_) (fun c_7 => ?_)
  · skip
    exact law_tail C0 hA hbA hAf (Nat.le_of_ble_eq_true rfl) (Nat.le_of_ble_eq_true rfl) hS (lv_sub hl [0, 1, 2, 3] rfl)
  · skip
    exact absurd c_7 (by decide)
set_option maxHeartbeats 4000000 in
set_option maxRecDepth 100000 in
theorem lc_19_4 {p : Program} {l : Launch} {e : Env} {s : State} {m : MethodId} {below : List Frame} {meth : Method} {c : Code} {dC : Nat → ClassId} {dI : Nat → Nat → Nat} {cB cI cJ cZ cS cO : ClassId} {b : Nat} {xs : Nat → Int32} {K V : Nat → Nat} {fz : Value} {A : Nat → Prop} {as as0 as1 as2 as3 bs bs0 bs1 bs2 bs3 cr cs cs0 cs1 cs2 cs3 cy ds ds0 ds1 ds2 ds3 mo sm sm0 sm1 sm2 sm3 sm4 sm5 tk tk0 tk1 tk2 tk3 tk4 tp tr tr0 tr1 tr10 tr2 tr3 tr4 tr5 tr6 tr7 tr8 tr9 x0 : Nat} {a : Nat → Nat} (C0 : lw_At p s m meth c b 6 xs) (hZ : zE K V fz A s) (hA : ∀ q : Nat, s.heap.size ≤ q → A q) (hbA : ¬ A b) (hAf : ∀ q : Nat, A q → s.heap.size ≤ q) (he_1 : xs 1 = 4) (hK : va_K (dC, dI) vwCl [(cB, .byte), (cI, .int), (cJ, .long), (cZ, .boolean), (cS, .object "StreamQueries$Source"), (cO, .object "java/lang/Object")] s) {H : Heap} {locs : List Loc} {ls : Array Slot} (hP : va_P (dC, dI) vwCl [(x0, .inr (12, [.ref tp, .int 0, .ref sm, .ref tk, .int 0, .null, .null, .ref as, .ref bs, .ref cs, .ref ds, .int 0, .ref cr, .ref cy, .int 0, .ref tr])), (mo, .inr (13, moF a (fun _ => 0) (-9223372036854775808)))] H) (hD : va_D A [(x0, .inr (12, [.ref tp, .int 0, .ref sm, .ref tk, .int 0, .null, .null, .ref as, .ref bs, .ref cs, .ref ds, .int 0, .ref cr, .ref cy, .int 0, .ref tr])), (mo, .inr (13, moF a (fun _ => 0) (-9223372036854775808)))]) (hS : va_S A s.heap H locs) (hl : lv_has ls 4 [(0, .ref b), (1, .ref x0), (2, .ref mo), (3, .int 0)]) : W p l e room_1 s m #[Value.ref b] below meth c H locs 127 886803 (lw_Z below #[Value.ref b] s) (F0 m 727 ls []) := by
  obtain ⟨hx, hb, hr, hml, hown, hts, hX, hbl, hlocks, hgv⟩ := id C0
  refine lv_aload_n hx hb dL_law_727 rfl (lv_at hl 1 rfl) ?_
  refine lv_aload_n hx hb dL_law_728 rfl (lv_at hl 0 rfl) ?_
  refine lv_iload_n hx hb dL_law_729 rfl (lv_at hl 3 rfl) ?_
  refine lv_iconst (v := 1) hx hb dL_law_730 (by decide) ?_
  refine lv_iadd hx hb dL_law_731 ?_
  refine lv_topi (fun x_1 ex_1 => ?_)
  have ex_1 : x_1 = 1 := ex_1.trans (by decide)
  subst ex_1
  refine va_sld hx hb hX hbl hbA hS (i := 1) (vp_in_nI (n := 1) (N := 6) (by omega) (by omega)) dL_law_732 ?_
  refine lv_topi (fun x_2 ex_2 => ?_)
  have ex_2 : x_2 = xs 1 := ex_2.trans (congrArg xs (nI_clamp (n := 1) (by omega)))
  have ex_2 : x_2 = 4 := ex_2.trans he_1
  rw [ex_2]
  have hPc := hP.sub (ws' := [(x0, .inr (12, [.ref tp, .int 0, .ref sm, .ref tk, .int 0, .null, .null, .ref as, .ref bs, .ref cs, .ref ds, .int 0, .ref cr, .ref cy, .int 0, .ref tr]))]) [0] rfl
  have hDc := hD.sub (ws' := [(x0, .inr (12, [.ref tp, .int 0, .ref sm, .ref tk, .int 0, .null, .null, .ref as, .ref bs, .ref cs, .ref ds, .int 0, .ref cr, .ref cy, .int 0, .ref tr]))]) [0] (by decide) rfl
  have hKc := hK.sub (tys' := [(cB, .byte), (cI, .int), (cJ, .long), (cZ, .boolean)]) [0, 1, 2, 3] rfl
  have hFc := va_free (wc := [(x0, .inr (12, [.ref tp, .int 0, .ref sm, .ref tk, .int 0, .null, .null, .ref as, .ref bs, .ref cs, .ref ds, .int 0, .ref cr, .ref cy, .int 0, .ref tr]))]) hD hS hA [0] rfl
  refine va_calli (va_runV (As := [.int 4]) (rest := []) ⟨hx, hb, hml, hown, hts⟩ (t_X11_told_4 l dC dI H.size cB cI cJ cZ x0 sm (.ref tp) (.ref tk) .null (.ref as) (.ref bs) (.ref cs) (.ref ds) (.ref cr) (.ref cy) (.ref tr) 0 0 0 0) (cwV 1 hts (gd_law (in_V kw_1670 kw_1671 kw_1672 kw_181 kc_X11_told)) rfl rfl rfl (by decide +kernel) ⟨Nat.le_of_ble_eq_true rfl, Nat.le_of_ble_eq_true rfl⟩) ⟨fun a U g mk q => by obtain ⟨q0, q1, qP, qK, qD⟩ := q; exact ⟨q0, q1, qP, va_K.moved (u := U) (U := U.calling g mk a) (Vm.Alike.refl U.vm) qK, qD⟩, va_recv hKc hPc (ci := 12) (q0 := 0) rfl rfl, fun U hU hW => ⟨rfl, by rw [hU], by rw [hU]; exact hPc, va_K.moved hW.alike hKc, hDc.weaken (fun _ _ _ _ => trivial)⟩⟩ rfl rfl hl.1 rfl (lv_room (Nat.le_of_ble_eq_true rfl)) dL_law_733 ⟨Nat.le_of_ble_eq_true rfl, Nat.le_of_ble_eq_true rfl⟩) hS (fun q _ h => hFc q h) hFc (fun r_3 u t_ H1 locs ht hvm hw hB hz1 hk1 hS => ?_)
  obtain ⟨hP1, hK1, hD1⟩ := hB
  rw [ht] at hP1
  have hK1 := va_K.moved hvm.symm hK1
  obtain ⟨hP, hD⟩ := va_join (wr := [(mo, .inr (13, moF a (fun _ => 0) (-9223372036854775808)))]) (w1 := [(x0, .inr (12, [.ref tp, .int 0, .ref sm, .ref tk, .int 0, .null, .null, .ref as, .ref bs, .ref cs, .ref ds, .int 0, .ref cr, .ref cy, .int 0, .ref tr]))]) hP hD [0] [1] rfl rfl (by decide) (by decide) hk1 hFc hP1 hD1
  have hK := (hK.sub (tys' := [(cS, .object "StreamQueries$Source"), (cO, .object "java/lang/Object")]) [4, 5] rfl).app hK1
  generalize H1 = H at hP hS ⊢
  have hP : va_P (dC, dI) vwCl [(mo, .inr (13, moF a (fun _ => 0) (-9223372036854775808))), (x0, .inr (12, [.ref tp, .int 0, .ref sm, .ref tk, .int 0, .null, .null, .ref as, .ref bs, .ref cs, .ref ds, .int 0, .ref cr, .ref cy, .int 0, .ref tr]))] H := hP
  have hD : va_D A [(mo, .inr (13, moF a (fun _ => 0) (-9223372036854775808))), (x0, .inr (12, [.ref tp, .int 0, .ref sm, .ref tk, .int 0, .null, .null, .ref as, .ref bs, .ref cs, .ref ds, .int 0, .ref cr, .ref cy, .int 0, .ref tr]))] := hD
  have hK : va_K (dC, dI) vwCl [(cS, .object "StreamQueries$Source"), (cO, .object "java/lang/Object"), (cB, .byte), (cI, .int), (cJ, .long), (cZ, .boolean)] s := hK
  have er_3 : r_3 = 0 := hw
  rw [er_3]
  refine lv_aload_n hx hb dL_law_736 rfl (lv_at hl 2 rfl) ?_
  refine lv_aload_n hx hb dL_law_737 rfl (lv_at hl 0 rfl) ?_
  refine lv_iload_n hx hb dL_law_738 rfl (lv_at hl 3 rfl) ?_
  refine lv_iconst (v := 1) hx hb dL_law_739 (by decide) ?_
  refine lv_iadd hx hb dL_law_740 ?_
  refine lv_topi (fun x_4 ex_4 => ?_)
  have ex_4 : x_4 = 1 := ex_4.trans (by decide)
  subst ex_4
  refine va_sld hx hb hX hbl hbA hS (i := 1) (vp_in_nI (n := 1) (N := 6) (by omega) (by omega)) dL_law_741 ?_
  refine lv_topi (fun x_5 ex_5 => ?_)
  have ex_5 : x_5 = xs 1 := ex_5.trans (congrArg xs (nI_clamp (n := 1) (by omega)))
  have ex_5 : x_5 = 4 := ex_5.trans he_1
  rw [ex_5]
  have hPc := hP.sub (ws' := [(mo, .inr (13, moF a (fun _ => 0) (-9223372036854775808)))]) [0] rfl
  have hDc := hD.sub (ws' := [(mo, .inr (13, moF a (fun _ => 0) (-9223372036854775808)))]) [0] (by decide) rfl
  have hKc := hK.sub (tys' := [(cB, .byte), (cI, .int), (cJ, .long), (cZ, .boolean)]) [2, 3, 4, 5] rfl
  have hFc := va_free (wc := [(mo, .inr (13, moF a (fun _ => 0) (-9223372036854775808)))]) hD hS hA [0] rfl
  refine va_calli (va_runV (As := [.int 4]) (rest := [.int 0]) ⟨hx, hb, hml, hown, hts⟩ (t_X12_told_4 l dC dI H.size cB cI cJ cZ mo a (fun _ => 0) (-9223372036854775808) rfl) (cwV 1 hts (gd_law (in_V kw_2504 kw_2505 kw_2506 kw_191 kc_X12_told)) rfl rfl rfl (by decide +kernel) ⟨Nat.le_of_ble_eq_true rfl, Nat.le_of_ble_eq_true rfl⟩) ⟨fun a U g mk q => by obtain ⟨q0, q1, qP, qK, qD⟩ := q; exact ⟨q0, q1, qP, va_K.moved (u := U) (U := U.calling g mk a) (Vm.Alike.refl U.vm) qK, qD⟩, va_recv hKc hPc (ci := 13) (q0 := 0) rfl rfl, fun U hU hW => ⟨rfl, by rw [hU], by rw [hU]; exact hPc, va_K.moved hW.alike hKc, hDc.weaken (fun _ _ _ _ => trivial)⟩⟩ rfl rfl hl.1 rfl (lv_room (Nat.le_of_ble_eq_true rfl)) dL_law_742 ⟨Nat.le_of_ble_eq_true rfl, Nat.le_of_ble_eq_true rfl⟩) hS (fun q _ h => hFc q h) hFc (fun r_6 u t_ H1 locs ht hvm hw hB hz1 hk1 hS => ?_)
  obtain ⟨hP1, hK1, hD1⟩ := hB
  rw [ht] at hP1
  have hK1 := va_K.moved hvm.symm hK1
  obtain ⟨hP, hD⟩ := va_join (wr := [(x0, .inr (12, [.ref tp, .int 0, .ref sm, .ref tk, .int 0, .null, .null, .ref as, .ref bs, .ref cs, .ref ds, .int 0, .ref cr, .ref cy, .int 0, .ref tr]))]) (w1 := [(mo, .inr (13, moF a (fun _ => 0) (-9223372036854775808)))]) hP hD [0] [1] rfl rfl (by decide) (by decide) hk1 hFc hP1 hD1
  have hK := (hK.sub (tys' := [(cS, .object "StreamQueries$Source"), (cO, .object "java/lang/Object")]) [0, 1] rfl).app hK1
  generalize H1 = H at hP hS ⊢
  have hP : va_P (dC, dI) vwCl [(x0, .inr (12, [.ref tp, .int 0, .ref sm, .ref tk, .int 0, .null, .null, .ref as, .ref bs, .ref cs, .ref ds, .int 0, .ref cr, .ref cy, .int 0, .ref tr])), (mo, .inr (13, moF a (fun _ => 0) (-9223372036854775808)))] H := hP
  have hD : va_D A [(x0, .inr (12, [.ref tp, .int 0, .ref sm, .ref tk, .int 0, .null, .null, .ref as, .ref bs, .ref cs, .ref ds, .int 0, .ref cr, .ref cy, .int 0, .ref tr])), (mo, .inr (13, moF a (fun _ => 0) (-9223372036854775808)))] := hD
  have hK : va_K (dC, dI) vwCl [(cS, .object "StreamQueries$Source"), (cO, .object "java/lang/Object"), (cB, .byte), (cI, .int), (cJ, .long), (cZ, .boolean)] s := hK
  have er_6 : r_6 = 0 := hw
  rw [er_6]
  refine lv_icmp_eq (tgt := 750) hx hb dL_law_745 (by decide) (fun c_7 => ?_) (fun c_7 => ?_)
  · skip
    exact law_tail C0 hA hbA hAf (Nat.le_of_ble_eq_true rfl) (Nat.le_of_ble_eq_true rfl) hS (lv_sub hl [0, 1, 2, 3] rfl)
  · skip
    exact absurd c_7 (by decide)
set_option maxHeartbeats 4000000 in
set_option maxRecDepth 100000 in
theorem lc_19_5 {p : Program} {l : Launch} {e : Env} {s : State} {m : MethodId} {below : List Frame} {meth : Method} {c : Code} {dC : Nat → ClassId} {dI : Nat → Nat → Nat} {cB cI cJ cZ cS cO : ClassId} {b : Nat} {xs : Nat → Int32} {K V : Nat → Nat} {fz : Value} {A : Nat → Prop} {as as0 as1 as2 as3 bs bs0 bs1 bs2 bs3 cr cs cs0 cs1 cs2 cs3 cy ds ds0 ds1 ds2 ds3 mo sm sm0 sm1 sm2 sm3 sm4 sm5 tk tk0 tk1 tk2 tk3 tk4 tp tr tr0 tr1 tr10 tr2 tr3 tr4 tr5 tr6 tr7 tr8 tr9 x0 : Nat} {a : Nat → Nat} (C0 : lw_At p s m meth c b 6 xs) (hZ : zE K V fz A s) (hA : ∀ q : Nat, s.heap.size ≤ q → A q) (hbA : ¬ A b) (hAf : ∀ q : Nat, A q → s.heap.size ≤ q) (he_1 : xs 1 = 5) (hK : va_K (dC, dI) vwCl [(cB, .byte), (cI, .int), (cJ, .long), (cZ, .boolean), (cS, .object "StreamQueries$Source"), (cO, .object "java/lang/Object")] s) {H : Heap} {locs : List Loc} {ls : Array Slot} (hP : va_P (dC, dI) vwCl [(x0, .inr (12, [.ref tp, .int 0, .ref sm, .ref tk, .int 0, .null, .null, .ref as, .ref bs, .ref cs, .ref ds, .int 0, .ref cr, .ref cy, .int 0, .ref tr])), (mo, .inr (13, moF a (fun _ => 0) (-9223372036854775808)))] H) (hD : va_D A [(x0, .inr (12, [.ref tp, .int 0, .ref sm, .ref tk, .int 0, .null, .null, .ref as, .ref bs, .ref cs, .ref ds, .int 0, .ref cr, .ref cy, .int 0, .ref tr])), (mo, .inr (13, moF a (fun _ => 0) (-9223372036854775808)))]) (hS : va_S A s.heap H locs) (hl : lv_has ls 4 [(0, .ref b), (1, .ref x0), (2, .ref mo), (3, .int 0)]) : W p l e room_1 s m #[Value.ref b] below meth c H locs 127 886803 (lw_Z below #[Value.ref b] s) (F0 m 727 ls []) := by
  obtain ⟨hx, hb, hr, hml, hown, hts, hX, hbl, hlocks, hgv⟩ := id C0
  refine lv_aload_n hx hb dL_law_727 rfl (lv_at hl 1 rfl) ?_
  refine lv_aload_n hx hb dL_law_728 rfl (lv_at hl 0 rfl) ?_
  refine lv_iload_n hx hb dL_law_729 rfl (lv_at hl 3 rfl) ?_
  refine lv_iconst (v := 1) hx hb dL_law_730 (by decide) ?_
  refine lv_iadd hx hb dL_law_731 ?_
  refine lv_topi (fun x_1 ex_1 => ?_)
  have ex_1 : x_1 = 1 := ex_1.trans (by decide)
  subst ex_1
  refine va_sld hx hb hX hbl hbA hS (i := 1) (vp_in_nI (n := 1) (N := 6) (by omega) (by omega)) dL_law_732 ?_
  refine lv_topi (fun x_2 ex_2 => ?_)
  have ex_2 : x_2 = xs 1 := ex_2.trans (congrArg xs (nI_clamp (n := 1) (by omega)))
  have ex_2 : x_2 = 5 := ex_2.trans he_1
  rw [ex_2]
  have hPc := hP.sub (ws' := [(x0, .inr (12, [.ref tp, .int 0, .ref sm, .ref tk, .int 0, .null, .null, .ref as, .ref bs, .ref cs, .ref ds, .int 0, .ref cr, .ref cy, .int 0, .ref tr]))]) [0] rfl
  have hDc := hD.sub (ws' := [(x0, .inr (12, [.ref tp, .int 0, .ref sm, .ref tk, .int 0, .null, .null, .ref as, .ref bs, .ref cs, .ref ds, .int 0, .ref cr, .ref cy, .int 0, .ref tr]))]) [0] (by decide) rfl
  have hKc := hK.sub (tys' := [(cB, .byte), (cI, .int), (cJ, .long), (cZ, .boolean)]) [0, 1, 2, 3] rfl
  have hFc := va_free (wc := [(x0, .inr (12, [.ref tp, .int 0, .ref sm, .ref tk, .int 0, .null, .null, .ref as, .ref bs, .ref cs, .ref ds, .int 0, .ref cr, .ref cy, .int 0, .ref tr]))]) hD hS hA [0] rfl
  refine va_calli (va_runV (As := [.int 5]) (rest := []) ⟨hx, hb, hml, hown, hts⟩ (t_X11_told_5 l dC dI H.size cB cI cJ cZ x0 sm (.ref tp) (.ref tk) .null (.ref as) (.ref bs) (.ref cs) (.ref ds) (.ref cr) (.ref cy) (.ref tr) 0 0 0 0) (cwV 1 hts (gd_law (in_V kw_1670 kw_1671 kw_1672 kw_181 kc_X11_told)) rfl rfl rfl (by decide +kernel) ⟨Nat.le_of_ble_eq_true rfl, Nat.le_of_ble_eq_true rfl⟩) ⟨fun a U g mk q => by obtain ⟨q0, q1, qP, qK, qD⟩ := q; exact ⟨q0, q1, qP, va_K.moved (u := U) (U := U.calling g mk a) (Vm.Alike.refl U.vm) qK, qD⟩, va_recv hKc hPc (ci := 12) (q0 := 0) rfl rfl, fun U hU hW => ⟨rfl, by rw [hU], by rw [hU]; exact hPc, va_K.moved hW.alike hKc, hDc.weaken (fun _ _ _ _ => trivial)⟩⟩ rfl rfl hl.1 rfl (lv_room (Nat.le_of_ble_eq_true rfl)) dL_law_733 ⟨Nat.le_of_ble_eq_true rfl, Nat.le_of_ble_eq_true rfl⟩) hS (fun q _ h => hFc q h) hFc (fun r_3 u t_ H1 locs ht hvm hw hB hz1 hk1 hS => ?_)
  obtain ⟨hP1, hK1, hD1⟩ := hB
  rw [ht] at hP1
  have hK1 := va_K.moved hvm.symm hK1
  obtain ⟨hP, hD⟩ := va_join (wr := [(mo, .inr (13, moF a (fun _ => 0) (-9223372036854775808)))]) (w1 := [(x0, .inr (12, [.ref tp, .int 0, .ref sm, .ref tk, .int 0, .null, .null, .ref as, .ref bs, .ref cs, .ref ds, .int 0, .ref cr, .ref cy, .int 0, .ref tr]))]) hP hD [0] [1] rfl rfl (by decide) (by decide) hk1 hFc hP1 hD1
  have hK := (hK.sub (tys' := [(cS, .object "StreamQueries$Source"), (cO, .object "java/lang/Object")]) [4, 5] rfl).app hK1
  generalize H1 = H at hP hS ⊢
  have hP : va_P (dC, dI) vwCl [(mo, .inr (13, moF a (fun _ => 0) (-9223372036854775808))), (x0, .inr (12, [.ref tp, .int 0, .ref sm, .ref tk, .int 0, .null, .null, .ref as, .ref bs, .ref cs, .ref ds, .int 0, .ref cr, .ref cy, .int 0, .ref tr]))] H := hP
  have hD : va_D A [(mo, .inr (13, moF a (fun _ => 0) (-9223372036854775808))), (x0, .inr (12, [.ref tp, .int 0, .ref sm, .ref tk, .int 0, .null, .null, .ref as, .ref bs, .ref cs, .ref ds, .int 0, .ref cr, .ref cy, .int 0, .ref tr]))] := hD
  have hK : va_K (dC, dI) vwCl [(cS, .object "StreamQueries$Source"), (cO, .object "java/lang/Object"), (cB, .byte), (cI, .int), (cJ, .long), (cZ, .boolean)] s := hK
  have er_3 : r_3 = 0 := hw
  rw [er_3]
  refine lv_aload_n hx hb dL_law_736 rfl (lv_at hl 2 rfl) ?_
  refine lv_aload_n hx hb dL_law_737 rfl (lv_at hl 0 rfl) ?_
  refine lv_iload_n hx hb dL_law_738 rfl (lv_at hl 3 rfl) ?_
  refine lv_iconst (v := 1) hx hb dL_law_739 (by decide) ?_
  refine lv_iadd hx hb dL_law_740 ?_
  refine lv_topi (fun x_4 ex_4 => ?_)
  have ex_4 : x_4 = 1 := ex_4.trans (by decide)
  subst ex_4
  refine va_sld hx hb hX hbl hbA hS (i := 1) (vp_in_nI (n := 1) (N := 6) (by omega) (by omega)) dL_law_741 ?_
  refine lv_topi (fun x_5 ex_5 => ?_)
  have ex_5 : x_5 = xs 1 := ex_5.trans (congrArg xs (nI_clamp (n := 1) (by omega)))
  have ex_5 : x_5 = 5 := ex_5.trans he_1
  rw [ex_5]
  have hPc := hP.sub (ws' := [(mo, .inr (13, moF a (fun _ => 0) (-9223372036854775808)))]) [0] rfl
  have hDc := hD.sub (ws' := [(mo, .inr (13, moF a (fun _ => 0) (-9223372036854775808)))]) [0] (by decide) rfl
  have hKc := hK.sub (tys' := [(cB, .byte), (cI, .int), (cJ, .long), (cZ, .boolean)]) [2, 3, 4, 5] rfl
  have hFc := va_free (wc := [(mo, .inr (13, moF a (fun _ => 0) (-9223372036854775808)))]) hD hS hA [0] rfl
  refine va_calli (va_runV (As := [.int 5]) (rest := [.int 0]) ⟨hx, hb, hml, hown, hts⟩ (t_X12_told_5 l dC dI H.size cB cI cJ cZ mo a (fun _ => 0) (-9223372036854775808) rfl) (cwV 1 hts (gd_law (in_V kw_2504 kw_2505 kw_2506 kw_191 kc_X12_told)) rfl rfl rfl (by decide +kernel) ⟨Nat.le_of_ble_eq_true rfl, Nat.le_of_ble_eq_true rfl⟩) ⟨fun a U g mk q => by obtain ⟨q0, q1, qP, qK, qD⟩ := q; exact ⟨q0, q1, qP, va_K.moved (u := U) (U := U.calling g mk a) (Vm.Alike.refl U.vm) qK, qD⟩, va_recv hKc hPc (ci := 13) (q0 := 0) rfl rfl, fun U hU hW => ⟨rfl, by rw [hU], by rw [hU]; exact hPc, va_K.moved hW.alike hKc, hDc.weaken (fun _ _ _ _ => trivial)⟩⟩ rfl rfl hl.1 rfl (lv_room (Nat.le_of_ble_eq_true rfl)) dL_law_742 ⟨Nat.le_of_ble_eq_true rfl, Nat.le_of_ble_eq_true rfl⟩) hS (fun q _ h => hFc q h) hFc (fun r_6 u t_ H1 locs ht hvm hw hB hz1 hk1 hS => ?_)
  obtain ⟨hP1, hK1, hD1⟩ := hB
  rw [ht] at hP1
  have hK1 := va_K.moved hvm.symm hK1
  obtain ⟨hP, hD⟩ := va_join (wr := [(x0, .inr (12, [.ref tp, .int 0, .ref sm, .ref tk, .int 0, .null, .null, .ref as, .ref bs, .ref cs, .ref ds, .int 0, .ref cr, .ref cy, .int 0, .ref tr]))]) (w1 := [(mo, .inr (13, moF a (fun _ => 0) (-9223372036854775808)))]) hP hD [0] [1] rfl rfl (by decide) (by decide) hk1 hFc hP1 hD1
  have hK := (hK.sub (tys' := [(cS, .object "StreamQueries$Source"), (cO, .object "java/lang/Object")]) [0, 1] rfl).app hK1
  generalize H1 = H at hP hS ⊢
  have hP : va_P (dC, dI) vwCl [(x0, .inr (12, [.ref tp, .int 0, .ref sm, .ref tk, .int 0, .null, .null, .ref as, .ref bs, .ref cs, .ref ds, .int 0, .ref cr, .ref cy, .int 0, .ref tr])), (mo, .inr (13, moF a (fun _ => 0) (-9223372036854775808)))] H := hP
  have hD : va_D A [(x0, .inr (12, [.ref tp, .int 0, .ref sm, .ref tk, .int 0, .null, .null, .ref as, .ref bs, .ref cs, .ref ds, .int 0, .ref cr, .ref cy, .int 0, .ref tr])), (mo, .inr (13, moF a (fun _ => 0) (-9223372036854775808)))] := hD
  have hK : va_K (dC, dI) vwCl [(cS, .object "StreamQueries$Source"), (cO, .object "java/lang/Object"), (cB, .byte), (cI, .int), (cJ, .long), (cZ, .boolean)] s := hK
  have er_6 : r_6 = 0 := hw
  rw [er_6]
  refine lv_icmp_eq (tgt := 750) hx hb dL_law_745 (by decide) (fun c_7 => ?_) (fun c_7 => ?_)
  · skip
    exact law_tail C0 hA hbA hAf (Nat.le_of_ble_eq_true rfl) (Nat.le_of_ble_eq_true rfl) hS (lv_sub hl [0, 1, 2, 3] rfl)
  · skip
    exact absurd c_7 (by decide)
set_option maxHeartbeats 4000000 in
set_option maxRecDepth 100000 in
theorem lc_19_o {p : Program} {l : Launch} {e : Env} {s : State} {m : MethodId} {below : List Frame} {meth : Method} {c : Code} {dC : Nat → ClassId} {dI : Nat → Nat → Nat} {cB cI cJ cZ cS cO : ClassId} {b : Nat} {xs : Nat → Int32} {K V : Nat → Nat} {fz : Value} {A : Nat → Prop} {as as0 as1 as2 as3 bs bs0 bs1 bs2 bs3 cr cs cs0 cs1 cs2 cs3 cy ds ds0 ds1 ds2 ds3 mo sm sm0 sm1 sm2 sm3 sm4 sm5 tk tk0 tk1 tk2 tk3 tk4 tp tr tr0 tr1 tr10 tr2 tr3 tr4 tr5 tr6 tr7 tr8 tr9 x0 : Nat} {a : Nat → Nat} (C0 : lw_At p s m meth c b 6 xs) (hZ : zE K V fz A s) (hA : ∀ q : Nat, s.heap.size ≤ q → A q) (hbA : ¬ A b) (hAf : ∀ q : Nat, A q → s.heap.size ≤ q) (he_1 : (xs 1).toInt < 0 ∨ 5 < (xs 1).toInt) (hK : va_K (dC, dI) vwCl [(cB, .byte), (cI, .int), (cJ, .long), (cZ, .boolean), (cS, .object "StreamQueries$Source"), (cO, .object "java/lang/Object")] s) {H : Heap} {locs : List Loc} {ls : Array Slot} (hP : va_P (dC, dI) vwCl [(x0, .inr (12, [.ref tp, .int 0, .ref sm, .ref tk, .int 0, .null, .null, .ref as, .ref bs, .ref cs, .ref ds, .int 0, .ref cr, .ref cy, .int 0, .ref tr])), (mo, .inr (13, moF a (fun _ => 0) (-9223372036854775808)))] H) (hD : va_D A [(x0, .inr (12, [.ref tp, .int 0, .ref sm, .ref tk, .int 0, .null, .null, .ref as, .ref bs, .ref cs, .ref ds, .int 0, .ref cr, .ref cy, .int 0, .ref tr])), (mo, .inr (13, moF a (fun _ => 0) (-9223372036854775808)))]) (hS : va_S A s.heap H locs) (hl : lv_has ls 4 [(0, .ref b), (1, .ref x0), (2, .ref mo), (3, .int 0)]) : W p l e room_1 s m #[Value.ref b] below meth c H locs 127 886803 (lw_Z below #[Value.ref b] s) (F0 m 727 ls []) := by
  obtain ⟨hx, hb, hr, hml, hown, hts, hX, hbl, hlocks, hgv⟩ := id C0
  refine lv_aload_n hx hb dL_law_727 rfl (lv_at hl 1 rfl) ?_
  refine lv_aload_n hx hb dL_law_728 rfl (lv_at hl 0 rfl) ?_
  refine lv_iload_n hx hb dL_law_729 rfl (lv_at hl 3 rfl) ?_
  refine lv_iconst (v := 1) hx hb dL_law_730 (by decide) ?_
  refine lv_iadd hx hb dL_law_731 ?_
  refine lv_topi (fun x_1 ex_1 => ?_)
  have ex_1 : x_1 = 1 := ex_1.trans (by decide)
  subst ex_1
  refine va_sld hx hb hX hbl hbA hS (i := 1) (vp_in_nI (n := 1) (N := 6) (by omega) (by omega)) dL_law_732 ?_
  refine lv_topi (fun x_2 ex_2 => ?_)
  have ex_2 : x_2 = xs 1 := ex_2.trans (congrArg xs (nI_clamp (n := 1) (by omega)))
  rw [ex_2]
  have hPc := hP.sub (ws' := [(x0, .inr (12, [.ref tp, .int 0, .ref sm, .ref tk, .int 0, .null, .null, .ref as, .ref bs, .ref cs, .ref ds, .int 0, .ref cr, .ref cy, .int 0, .ref tr]))]) [0] rfl
  have hDc := hD.sub (ws' := [(x0, .inr (12, [.ref tp, .int 0, .ref sm, .ref tk, .int 0, .null, .null, .ref as, .ref bs, .ref cs, .ref ds, .int 0, .ref cr, .ref cy, .int 0, .ref tr]))]) [0] (by decide) rfl
  have hKc := hK.sub (tys' := [(cB, .byte), (cI, .int), (cJ, .long), (cZ, .boolean)]) [0, 1, 2, 3] rfl
  have hFc := va_free (wc := [(x0, .inr (12, [.ref tp, .int 0, .ref sm, .ref tk, .int 0, .null, .null, .ref as, .ref bs, .ref cs, .ref ds, .int 0, .ref cr, .ref cy, .int 0, .ref tr]))]) hD hS hA [0] rfl
  refine va_calli (va_runV (As := [.int (xs 1)]) (rest := []) ⟨hx, hb, hml, hown, hts⟩ (t_X11_told_o l dC dI H.size cB cI cJ cZ x0 sm (.ref tp) (.ref tk) .null (.ref as) (.ref bs) (.ref cs) (.ref ds) (.ref cr) (.ref cy) (.ref tr) 0 0 0 0 (xs 1) he_1) (cwV 1 hts (gd_law (in_V kw_1670 kw_1671 kw_1672 kw_181 kc_X11_told)) rfl rfl rfl (by decide +kernel) ⟨Nat.le_of_ble_eq_true rfl, Nat.le_of_ble_eq_true rfl⟩) ⟨fun a U g mk q => by obtain ⟨q0, q1, qP, qK, qD⟩ := q; exact ⟨q0, q1, qP, va_K.moved (u := U) (U := U.calling g mk a) (Vm.Alike.refl U.vm) qK, qD⟩, va_recv hKc hPc (ci := 12) (q0 := 0) rfl rfl, fun U hU hW => ⟨rfl, by rw [hU], by rw [hU]; exact hPc, va_K.moved hW.alike hKc, hDc.weaken (fun _ _ _ _ => trivial)⟩⟩ rfl rfl hl.1 rfl (lv_room (Nat.le_of_ble_eq_true rfl)) dL_law_733 ⟨Nat.le_of_ble_eq_true rfl, Nat.le_of_ble_eq_true rfl⟩) hS (fun q _ h => hFc q h) hFc (fun r_3 u t_ H1 locs ht hvm hw hB hz1 hk1 hS => ?_)
  obtain ⟨hP1, hK1, hD1⟩ := hB
  rw [ht] at hP1
  have hK1 := va_K.moved hvm.symm hK1
  obtain ⟨hP, hD⟩ := va_join (wr := [(mo, .inr (13, moF a (fun _ => 0) (-9223372036854775808)))]) (w1 := [(x0, .inr (12, [.ref tp, .int 0, .ref sm, .ref tk, .int 0, .null, .null, .ref as, .ref bs, .ref cs, .ref ds, .int 0, .ref cr, .ref cy, .int 0, .ref tr]))]) hP hD [0] [1] rfl rfl (by decide) (by decide) hk1 hFc hP1 hD1
  have hK := (hK.sub (tys' := [(cS, .object "StreamQueries$Source"), (cO, .object "java/lang/Object")]) [4, 5] rfl).app hK1
  generalize H1 = H at hP hS ⊢
  have hP : va_P (dC, dI) vwCl [(mo, .inr (13, moF a (fun _ => 0) (-9223372036854775808))), (x0, .inr (12, [.ref tp, .int 0, .ref sm, .ref tk, .int 0, .null, .null, .ref as, .ref bs, .ref cs, .ref ds, .int 0, .ref cr, .ref cy, .int 0, .ref tr]))] H := hP
  have hD : va_D A [(mo, .inr (13, moF a (fun _ => 0) (-9223372036854775808))), (x0, .inr (12, [.ref tp, .int 0, .ref sm, .ref tk, .int 0, .null, .null, .ref as, .ref bs, .ref cs, .ref ds, .int 0, .ref cr, .ref cy, .int 0, .ref tr]))] := hD
  have hK : va_K (dC, dI) vwCl [(cS, .object "StreamQueries$Source"), (cO, .object "java/lang/Object"), (cB, .byte), (cI, .int), (cJ, .long), (cZ, .boolean)] s := hK
  have er_3 : r_3 = (-1) := hw
  rw [er_3]
  refine lv_aload_n hx hb dL_law_736 rfl (lv_at hl 2 rfl) ?_
  refine lv_aload_n hx hb dL_law_737 rfl (lv_at hl 0 rfl) ?_
  refine lv_iload_n hx hb dL_law_738 rfl (lv_at hl 3 rfl) ?_
  refine lv_iconst (v := 1) hx hb dL_law_739 (by decide) ?_
  refine lv_iadd hx hb dL_law_740 ?_
  refine lv_topi (fun x_4 ex_4 => ?_)
  have ex_4 : x_4 = 1 := ex_4.trans (by decide)
  subst ex_4
  refine va_sld hx hb hX hbl hbA hS (i := 1) (vp_in_nI (n := 1) (N := 6) (by omega) (by omega)) dL_law_741 ?_
  refine lv_topi (fun x_5 ex_5 => ?_)
  have ex_5 : x_5 = xs 1 := ex_5.trans (congrArg xs (nI_clamp (n := 1) (by omega)))
  rw [ex_5]
  have hPc := hP.sub (ws' := [(mo, .inr (13, moF a (fun _ => 0) (-9223372036854775808)))]) [0] rfl
  have hDc := hD.sub (ws' := [(mo, .inr (13, moF a (fun _ => 0) (-9223372036854775808)))]) [0] (by decide) rfl
  have hKc := hK.sub (tys' := [(cB, .byte), (cI, .int), (cJ, .long), (cZ, .boolean)]) [2, 3, 4, 5] rfl
  have hFc := va_free (wc := [(mo, .inr (13, moF a (fun _ => 0) (-9223372036854775808)))]) hD hS hA [0] rfl
  refine va_calli (va_runV (As := [.int (xs 1)]) (rest := [.int (-1)]) ⟨hx, hb, hml, hown, hts⟩ (t_X12_told_o l dC dI H.size cB cI cJ cZ mo a (fun _ => 0) (-9223372036854775808) (xs 1) he_1) (cwV 1 hts (gd_law (in_V kw_2504 kw_2505 kw_2506 kw_191 kc_X12_told)) rfl rfl rfl (by decide +kernel) ⟨Nat.le_of_ble_eq_true rfl, Nat.le_of_ble_eq_true rfl⟩) ⟨fun a U g mk q => by obtain ⟨q0, q1, qP, qK, qD⟩ := q; exact ⟨q0, q1, qP, va_K.moved (u := U) (U := U.calling g mk a) (Vm.Alike.refl U.vm) qK, qD⟩, va_recv hKc hPc (ci := 13) (q0 := 0) rfl rfl, fun U hU hW => ⟨rfl, by rw [hU], by rw [hU]; exact hPc, va_K.moved hW.alike hKc, hDc.weaken (fun _ _ _ _ => trivial)⟩⟩ rfl rfl hl.1 rfl (lv_room (Nat.le_of_ble_eq_true rfl)) dL_law_742 ⟨Nat.le_of_ble_eq_true rfl, Nat.le_of_ble_eq_true rfl⟩) hS (fun q _ h => hFc q h) hFc (fun r_6 u t_ H1 locs ht hvm hw hB hz1 hk1 hS => ?_)
  obtain ⟨hP1, hK1, hD1⟩ := hB
  rw [ht] at hP1
  have hK1 := va_K.moved hvm.symm hK1
  obtain ⟨hP, hD⟩ := va_join (wr := [(x0, .inr (12, [.ref tp, .int 0, .ref sm, .ref tk, .int 0, .null, .null, .ref as, .ref bs, .ref cs, .ref ds, .int 0, .ref cr, .ref cy, .int 0, .ref tr]))]) (w1 := [(mo, .inr (13, moF a (fun _ => 0) (-9223372036854775808)))]) hP hD [0] [1] rfl rfl (by decide) (by decide) hk1 hFc hP1 hD1
  have hK := (hK.sub (tys' := [(cS, .object "StreamQueries$Source"), (cO, .object "java/lang/Object")]) [0, 1] rfl).app hK1
  generalize H1 = H at hP hS ⊢
  have hP : va_P (dC, dI) vwCl [(x0, .inr (12, [.ref tp, .int 0, .ref sm, .ref tk, .int 0, .null, .null, .ref as, .ref bs, .ref cs, .ref ds, .int 0, .ref cr, .ref cy, .int 0, .ref tr])), (mo, .inr (13, moF a (fun _ => 0) (-9223372036854775808)))] H := hP
  have hD : va_D A [(x0, .inr (12, [.ref tp, .int 0, .ref sm, .ref tk, .int 0, .null, .null, .ref as, .ref bs, .ref cs, .ref ds, .int 0, .ref cr, .ref cy, .int 0, .ref tr])), (mo, .inr (13, moF a (fun _ => 0) (-9223372036854775808)))] := hD
  have hK : va_K (dC, dI) vwCl [(cS, .object "StreamQueries$Source"), (cO, .object "java/lang/Object"), (cB, .byte), (cI, .int), (cJ, .long), (cZ, .boolean)] s := hK
  have er_6 : r_6 = (-1) := hw
  rw [er_6]
  refine lv_icmp_eq (tgt := 750) hx hb dL_law_745 (by decide) (fun c_7 => ?_) (fun c_7 => ?_)
  · skip
    exact law_tail C0 hA hbA hAf (Nat.le_of_ble_eq_true rfl) (Nat.le_of_ble_eq_true rfl) hS (lv_sub hl [0, 1, 2, 3] rfl)
  · skip
    exact absurd rfl c_7

