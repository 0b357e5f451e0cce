/-! the reference where no QUERY stands -/
def frN (rt : Nat → Int32) (b : Nat) : Nat → Nat → Nat | 0, p => p | f + 1, p => if rt (b + p) = 0 then p else frN rt b f (p + 1)
theorem frN_y {rt : Nat → Int32} {b p : Nat} (hp : p < 8) (h : rt (b + p) = 0) : frN rt b (8 - p) p = p := by
  rw [show 8 - p = (8 - (p + 1)) + 1 by omega]; exact if_pos h
theorem frN_n {rt : Nat → Int32} {b p : Nat} (hp : p < 8) (h : ¬ rt (b + p) = 0) : frN rt b (8 - p) p = frN rt b (8 - (p + 1)) (p + 1) := by
  rw [show 8 - p = (8 - (p + 1)) + 1 by omega]; exact if_neg h
def rvF (dv rv : Nat → Int64) (b : Nat) : Nat → Nat → Int64 | 0 => rv | c + 1 => vp_updL (rvF dv rv b c) (b + c) (dv c)
def rnF (dn rn : Nat → Int32) (b : Nat) : Nat → Nat → Int32 | 0 => rn | c + 1 => upd (rnF dn rn b c) (b + c) (vp_nar .boolean (dn c))
theorem dX12_renew_0 : decode cX12_renew 0 = .ok (.aload_n 0, 1) := by decide +kernel
theorem dX12_renew_1 : decode cX12_renew 1 = .ok (.getfield 584, 3) := by decide +kernel
theorem dX12_renew_4 : decode cX12_renew 4 = .ok (.ifCond .ne 4, 3) := by decide +kernel
theorem dX12_renew_7 : decode cX12_renew 7 = .ok (.return_, 1) := by decide +kernel
theorem dX12_renew_8 : decode cX12_renew 8 = .ok (.aload_n 0, 1) := by decide +kernel
theorem dX12_renew_9 : decode cX12_renew 9 = .ok (.iconst 0, 1) := by decide +kernel
theorem dX12_renew_10 : decode cX12_renew 10 = .ok (.putfield 593, 3) := by decide +kernel
theorem dX12_renew_13 : decode cX12_renew 13 = .ok (.aload_n 0, 1) := by decide +kernel
theorem dX12_renew_14 : decode cX12_renew 14 = .ok (.iconst 0, 1) := by decide +kernel
theorem dX12_renew_15 : decode cX12_renew 15 = .ok (.putfield 590, 3) := by decide +kernel
theorem dX12_renew_18 : decode cX12_renew 18 = .ok (.aload_n 0, 1) := by decide +kernel
theorem dX12_renew_19 : decode cX12_renew 19 = .ok (.iconst 0, 1) := by decide +kernel
theorem dX12_renew_20 : decode cX12_renew 20 = .ok (.invokevirtual 659, 3) := by decide +kernel
theorem dX12_renew_23 : decode cX12_renew 23 = .ok (.istore_n 2, 1) := by decide +kernel
theorem dX12_renew_24 : decode cX12_renew 24 = .ok (.aload_n 0, 1) := by decide +kernel
theorem dX12_renew_25 : decode cX12_renew 25 = .ok (.getfield 206, 3) := by decide +kernel
theorem dX12_renew_28 : decode cX12_renew 28 = .ok (.iload_n 2, 1) := by decide +kernel
theorem dX12_renew_29 : decode cX12_renew 29 = .ok (.iaload, 1) := by decide +kernel
theorem dX12_renew_30 : decode cX12_renew 30 = .ok (.istore_n 3, 1) := by decide +kernel
theorem dX12_renew_31 : decode cX12_renew 31 = .ok (.aload_n 0, 1) := by decide +kernel
theorem dX12_renew_32 : decode cX12_renew 32 = .ok (.aload_n 0, 1) := by decide +kernel
theorem dX12_renew_33 : decode cX12_renew 33 = .ok (.getfield 713, 3) := by decide +kernel
theorem dX12_renew_36 : decode cX12_renew 36 = .ok (.putfield 716, 3) := by decide +kernel
theorem dX12_renew_39 : decode cX12_renew 39 = .ok (.iconst 0, 1) := by decide +kernel
theorem dX12_renew_40 : decode cX12_renew 40 = .ok (.istore 4, 2) := by decide +kernel
theorem dX12_renew_42 : decode cX12_renew 42 = .ok (.iload 4, 2) := by decide +kernel
theorem dX12_renew_44 : decode cX12_renew 44 = .ok (.aload_n 0, 1) := by decide +kernel
theorem dX12_renew_45 : decode cX12_renew 45 = .ok (.getfield 713, 3) := by decide +kernel
theorem dX12_renew_48 : decode cX12_renew 48 = .ok (.aload_n 0, 1) := by decide +kernel
theorem dX12_renew_49 : decode cX12_renew 49 = .ok (.getfield 719, 3) := by decide +kernel
theorem dX12_renew_52 : decode cX12_renew 52 = .ok (.imul, 1) := by decide +kernel
theorem dX12_renew_53 : decode cX12_renew 53 = .ok (.if_icmp .ge 37, 3) := by decide +kernel
theorem dX12_renew_56 : decode cX12_renew 56 = .ok (.aload_n 0, 1) := by decide +kernel
theorem dX12_renew_57 : decode cX12_renew 57 = .ok (.getfield 227, 3) := by decide +kernel
theorem dX12_renew_60 : decode cX12_renew 60 = .ok (.iload 4, 2) := by decide +kernel
theorem dX12_renew_62 : decode cX12_renew 62 = .ok (.aload_n 0, 1) := by decide +kernel
theorem dX12_renew_63 : decode cX12_renew 63 = .ok (.getfield 221, 3) := by decide +kernel
theorem dX12_renew_66 : decode cX12_renew 66 = .ok (.iload 4, 2) := by decide +kernel
theorem dX12_renew_68 : decode cX12_renew 68 = .ok (.laload, 1) := by decide +kernel
theorem dX12_renew_69 : decode cX12_renew 69 = .ok (.lastore, 1) := by decide +kernel
theorem dX12_renew_70 : decode cX12_renew 70 = .ok (.aload_n 0, 1) := by decide +kernel
theorem dX12_renew_71 : decode cX12_renew 71 = .ok (.getfield 230, 3) := by decide +kernel
theorem dX12_renew_74 : decode cX12_renew 74 = .ok (.iload 4, 2) := by decide +kernel
theorem dX12_renew_76 : decode cX12_renew 76 = .ok (.aload_n 0, 1) := by decide +kernel
theorem dX12_renew_77 : decode cX12_renew 77 = .ok (.getfield 224, 3) := by decide +kernel
theorem dX12_renew_80 : decode cX12_renew 80 = .ok (.iload 4, 2) := by decide +kernel
theorem dX12_renew_82 : decode cX12_renew 82 = .ok (.baload, 1) := by decide +kernel
theorem dX12_renew_83 : decode cX12_renew 83 = .ok (.bastore, 1) := by decide +kernel
theorem dX12_renew_84 : decode cX12_renew 84 = .ok (.iinc 4 1, 3) := by decide +kernel
theorem dX12_renew_87 : decode cX12_renew 87 = .ok (.goto (-45), 3) := by decide +kernel
theorem dX12_renew_90 : decode cX12_renew 90 = .ok (.aload_n 0, 1) := by decide +kernel
theorem dX12_renew_91 : decode cX12_renew 91 = .ok (.iload_n 2, 1) := by decide +kernel
theorem dX12_renew_92 : decode cX12_renew 92 = .ok (.invokevirtual 722, 3) := by decide +kernel
theorem dX12_renew_95 : decode cX12_renew 95 = .ok (.aload_n 0, 1) := by decide +kernel
theorem dX12_renew_96 : decode cX12_renew 96 = .ok (.aload_n 0, 1) := by decide +kernel
theorem dX12_renew_97 : decode cX12_renew 97 = .ok (.getfield 203, 3) := by decide +kernel
theorem dX12_renew_100 : decode cX12_renew 100 = .ok (.iload_n 2, 1) := by decide +kernel
theorem dX12_renew_101 : decode cX12_renew 101 = .ok (.iaload, 1) := by decide +kernel
theorem dX12_renew_102 : decode cX12_renew 102 = .ok (.putfield 724, 3) := by decide +kernel
theorem dX12_renew_105 : decode cX12_renew 105 = .ok (.aload_n 0, 1) := by decide +kernel
theorem dX12_renew_106 : decode cX12_renew 106 = .ok (.iload_n 3, 1) := by decide +kernel
theorem dX12_renew_107 : decode cX12_renew 107 = .ok (.putfield 719, 3) := by decide +kernel
theorem dX12_renew_110 : decode cX12_renew 110 = .ok (.aload_n 0, 1) := by decide +kernel
theorem dX12_renew_111 : decode cX12_renew 111 = .ok (.aload_n 0, 1) := by decide +kernel
theorem dX12_renew_112 : decode cX12_renew 112 = .ok (.getfield 724, 3) := by decide +kernel
theorem dX12_renew_115 : decode cX12_renew 115 = .ok (.putfield 713, 3) := by decide +kernel
theorem dX12_renew_118 : decode cX12_renew 118 = .ok (.iconst 0, 1) := by decide +kernel
theorem dX12_renew_119 : decode cX12_renew 119 = .ok (.istore 4, 2) := by decide +kernel
theorem dX12_renew_121 : decode cX12_renew 121 = .ok (.iload 4, 2) := by decide +kernel
theorem dX12_renew_123 : decode cX12_renew 123 = .ok (.aload_n 0, 1) := by decide +kernel
theorem dX12_renew_124 : decode cX12_renew 124 = .ok (.getfield 724, 3) := by decide +kernel
theorem dX12_renew_127 : decode cX12_renew 127 = .ok (.if_icmp .ge 184, 3) := by decide +kernel
theorem dX12_renew_130 : decode cX12_renew 130 = .ok (.aload_n 0, 1) := by decide +kernel
theorem dX12_renew_131 : decode cX12_renew 131 = .ok (.iload_n 2, 1) := by decide +kernel
theorem dX12_renew_132 : decode cX12_renew 132 = .ok (.aload_n 0, 1) := by decide +kernel
theorem dX12_renew_133 : decode cX12_renew 133 = .ok (.getfield 242, 3) := by decide +kernel
theorem dX12_renew_136 : decode cX12_renew 136 = .ok (.iload 4, 2) := by decide +kernel
theorem dX12_renew_138 : decode cX12_renew 138 = .ok (.iaload, 1) := by decide +kernel
theorem dX12_renew_139 : decode cX12_renew 139 = .ok (.invokevirtual 653, 3) := by decide +kernel
theorem dX12_renew_142 : decode cX12_renew 142 = .ok (.istore 5, 2) := by decide +kernel
theorem dX12_renew_144 : decode cX12_renew 144 = .ok (.aload_n 0, 1) := by decide +kernel
theorem dX12_renew_145 : decode cX12_renew 145 = .ok (.getfield 172, 3) := by decide +kernel
theorem dX12_renew_148 : decode cX12_renew 148 = .ok (.iconst 0, 1) := by decide +kernel
theorem dX12_renew_149 : decode cX12_renew 149 = .ok (.iaload, 1) := by decide +kernel
theorem dX12_renew_150 : decode cX12_renew 150 = .ok (.iconst (-1), 1) := by decide +kernel
theorem dX12_renew_151 : decode cX12_renew 151 = .ok (.if_icmp .ne 8, 3) := by decide +kernel
theorem dX12_renew_154 : decode cX12_renew 154 = .ok (.iload 5, 2) := by decide +kernel
theorem dX12_renew_156 : decode cX12_renew 156 = .ok (.goto 10, 3) := by decide +kernel
theorem dX12_renew_159 : decode cX12_renew 159 = .ok (.aload_n 0, 1) := by decide +kernel
theorem dX12_renew_160 : decode cX12_renew 160 = .ok (.iload_n 2, 1) := by decide +kernel
theorem dX12_renew_161 : decode cX12_renew 161 = .ok (.iload 4, 2) := by decide +kernel
theorem dX12_renew_163 : decode cX12_renew 163 = .ok (.invokevirtual 653, 3) := by decide +kernel
theorem dX12_renew_166 : decode cX12_renew 166 = .ok (.istore 6, 2) := by decide +kernel
theorem dX12_renew_168 : decode cX12_renew 168 = .ok (.iconst 0, 1) := by decide +kernel
theorem dX12_renew_169 : decode cX12_renew 169 = .ok (.istore 7, 2) := by decide +kernel
theorem dX12_renew_171 : decode cX12_renew 171 = .ok (.iload 7, 2) := by decide +kernel
theorem dX12_renew_173 : decode cX12_renew 173 = .ok (.iload_n 3, 1) := by decide +kernel
theorem dX12_renew_174 : decode cX12_renew 174 = .ok (.if_icmp .ge 131, 3) := by decide +kernel
theorem dX12_renew_177 : decode cX12_renew 177 = .ok (.aload_n 0, 1) := by decide +kernel
theorem dX12_renew_178 : decode cX12_renew 178 = .ok (.getfield 221, 3) := by decide +kernel
theorem dX12_renew_181 : decode cX12_renew 181 = .ok (.iload_n 3, 1) := by decide +kernel
theorem dX12_renew_182 : decode cX12_renew 182 = .ok (.iload 4, 2) := by decide +kernel
theorem dX12_renew_184 : decode cX12_renew 184 = .ok (.imul, 1) := by decide +kernel
theorem dX12_renew_185 : decode cX12_renew 185 = .ok (.iload 7, 2) := by decide +kernel
theorem dX12_renew_187 : decode cX12_renew 187 = .ok (.iadd, 1) := by decide +kernel
theorem dX12_renew_188 : decode cX12_renew 188 = .ok (.aload_n 0, 1) := by decide +kernel
theorem dX12_renew_189 : decode cX12_renew 189 = .ok (.getfield 197, 3) := by decide +kernel
theorem dX12_renew_192 : decode cX12_renew 192 = .ok (.iload 5, 2) := by decide +kernel
theorem dX12_renew_194 : decode cX12_renew 194 = .ok (.iload 7, 2) := by decide +kernel
theorem dX12_renew_196 : decode cX12_renew 196 = .ok (.iadd, 1) := by decide +kernel
theorem dX12_renew_197 : decode cX12_renew 197 = .ok (.baload, 1) := by decide +kernel
theorem dX12_renew_198 : decode cX12_renew 198 = .ok (.ifCond .eq 7, 3) := by decide +kernel
theorem dX12_renew_201 : decode cX12_renew 201 = .ok (.lconst 0, 1) := by decide +kernel
theorem dX12_renew_202 : decode cX12_renew 202 = .ok (.goto 13, 3) := by decide +kernel
theorem dX12_renew_205 : decode cX12_renew 205 = .ok (.aload_n 0, 1) := by decide +kernel
theorem dX12_renew_206 : decode cX12_renew 206 = .ok (.getfield 194, 3) := by decide +kernel
theorem dX12_renew_209 : decode cX12_renew 209 = .ok (.iload 5, 2) := by decide +kernel
theorem dX12_renew_211 : decode cX12_renew 211 = .ok (.iload 7, 2) := by decide +kernel
theorem dX12_renew_213 : decode cX12_renew 213 = .ok (.iadd, 1) := by decide +kernel
theorem dX12_renew_214 : decode cX12_renew 214 = .ok (.laload, 1) := by decide +kernel
theorem dX12_renew_215 : decode cX12_renew 215 = .ok (.lastore, 1) := by decide +kernel
theorem dX12_renew_216 : decode cX12_renew 216 = .ok (.aload_n 0, 1) := by decide +kernel
theorem dX12_renew_217 : decode cX12_renew 217 = .ok (.getfield 224, 3) := by decide +kernel
theorem dX12_renew_220 : decode cX12_renew 220 = .ok (.iload_n 3, 1) := by decide +kernel
theorem dX12_renew_221 : decode cX12_renew 221 = .ok (.iload 4, 2) := by decide +kernel
theorem dX12_renew_223 : decode cX12_renew 223 = .ok (.imul, 1) := by decide +kernel
theorem dX12_renew_224 : decode cX12_renew 224 = .ok (.iload 7, 2) := by decide +kernel
theorem dX12_renew_226 : decode cX12_renew 226 = .ok (.iadd, 1) := by decide +kernel
theorem dX12_renew_227 : decode cX12_renew 227 = .ok (.aload_n 0, 1) := by decide +kernel
theorem dX12_renew_228 : decode cX12_renew 228 = .ok (.getfield 197, 3) := by decide +kernel
theorem dX12_renew_231 : decode cX12_renew 231 = .ok (.iload 5, 2) := by decide +kernel
theorem dX12_renew_233 : decode cX12_renew 233 = .ok (.iload 7, 2) := by decide +kernel
theorem dX12_renew_235 : decode cX12_renew 235 = .ok (.iadd, 1) := by decide +kernel
theorem dX12_renew_236 : decode cX12_renew 236 = .ok (.baload, 1) := by decide +kernel
theorem dX12_renew_237 : decode cX12_renew 237 = .ok (.bastore, 1) := by decide +kernel
theorem dX12_renew_238 : decode cX12_renew 238 = .ok (.aload_n 0, 1) := by decide +kernel
theorem dX12_renew_239 : decode cX12_renew 239 = .ok (.getfield 215, 3) := by decide +kernel
theorem dX12_renew_242 : decode cX12_renew 242 = .ok (.iload_n 3, 1) := by decide +kernel
theorem dX12_renew_243 : decode cX12_renew 243 = .ok (.iload 4, 2) := by decide +kernel
theorem dX12_renew_245 : decode cX12_renew 245 = .ok (.imul, 1) := by decide +kernel
theorem dX12_renew_246 : decode cX12_renew 246 = .ok (.iload 7, 2) := by decide +kernel
theorem dX12_renew_248 : decode cX12_renew 248 = .ok (.iadd, 1) := by decide +kernel
theorem dX12_renew_249 : decode cX12_renew 249 = .ok (.aload_n 0, 1) := by decide +kernel
theorem dX12_renew_250 : decode cX12_renew 250 = .ok (.getfield 197, 3) := by decide +kernel
theorem dX12_renew_253 : decode cX12_renew 253 = .ok (.iload 6, 2) := by decide +kernel
theorem dX12_renew_255 : decode cX12_renew 255 = .ok (.iload 7, 2) := by decide +kernel
theorem dX12_renew_257 : decode cX12_renew 257 = .ok (.iadd, 1) := by decide +kernel
theorem dX12_renew_258 : decode cX12_renew 258 = .ok (.baload, 1) := by decide +kernel
theorem dX12_renew_259 : decode cX12_renew 259 = .ok (.ifCond .eq 7, 3) := by decide +kernel
theorem dX12_renew_262 : decode cX12_renew 262 = .ok (.lconst 0, 1) := by decide +kernel
theorem dX12_renew_263 : decode cX12_renew 263 = .ok (.goto 13, 3) := by decide +kernel
theorem dX12_renew_266 : decode cX12_renew 266 = .ok (.aload_n 0, 1) := by decide +kernel
theorem dX12_renew_267 : decode cX12_renew 267 = .ok (.getfield 194, 3) := by decide +kernel
theorem dX12_renew_270 : decode cX12_renew 270 = .ok (.iload 6, 2) := by decide +kernel
theorem dX12_renew_272 : decode cX12_renew 272 = .ok (.iload 7, 2) := by decide +kernel
theorem dX12_renew_274 : decode cX12_renew 274 = .ok (.iadd, 1) := by decide +kernel
theorem dX12_renew_275 : decode cX12_renew 275 = .ok (.laload, 1) := by decide +kernel
theorem dX12_renew_276 : decode cX12_renew 276 = .ok (.lastore, 1) := by decide +kernel
theorem dX12_renew_277 : decode cX12_renew 277 = .ok (.aload_n 0, 1) := by decide +kernel
theorem dX12_renew_278 : decode cX12_renew 278 = .ok (.getfield 218, 3) := by decide +kernel
theorem dX12_renew_281 : decode cX12_renew 281 = .ok (.iload_n 3, 1) := by decide +kernel
theorem dX12_renew_282 : decode cX12_renew 282 = .ok (.iload 4, 2) := by decide +kernel
theorem dX12_renew_284 : decode cX12_renew 284 = .ok (.imul, 1) := by decide +kernel
theorem dX12_renew_285 : decode cX12_renew 285 = .ok (.iload 7, 2) := by decide +kernel
theorem dX12_renew_287 : decode cX12_renew 287 = .ok (.iadd, 1) := by decide +kernel
theorem dX12_renew_288 : decode cX12_renew 288 = .ok (.aload_n 0, 1) := by decide +kernel
theorem dX12_renew_289 : decode cX12_renew 289 = .ok (.getfield 197, 3) := by decide +kernel
theorem dX12_renew_292 : decode cX12_renew 292 = .ok (.iload 6, 2) := by decide +kernel
theorem dX12_renew_294 : decode cX12_renew 294 = .ok (.iload 7, 2) := by decide +kernel
theorem dX12_renew_296 : decode cX12_renew 296 = .ok (.iadd, 1) := by decide +kernel
theorem dX12_renew_297 : decode cX12_renew 297 = .ok (.baload, 1) := by decide +kernel
theorem dX12_renew_298 : decode cX12_renew 298 = .ok (.bastore, 1) := by decide +kernel
theorem dX12_renew_299 : decode cX12_renew 299 = .ok (.iinc 7 1, 3) := by decide +kernel
theorem dX12_renew_302 : decode cX12_renew 302 = .ok (.goto (-131), 3) := by decide +kernel
theorem dX12_renew_305 : decode cX12_renew 305 = .ok (.iinc 4 1, 3) := by decide +kernel
theorem dX12_renew_308 : decode cX12_renew 308 = .ok (.goto (-187), 3) := by decide +kernel
theorem dX12_renew_311 : decode cX12_renew 311 = .ok (.aload_n 0, 1) := by decide +kernel
theorem dX12_renew_312 : decode cX12_renew 312 = .ok (.iconst 0, 1) := by decide +kernel
theorem dX12_renew_313 : decode cX12_renew 313 = .ok (.putfield 271, 3) := by decide +kernel
theorem dX12_renew_316 : decode cX12_renew 316 = .ok (.iload_n 1, 1) := by decide +kernel
theorem dX12_renew_317 : decode cX12_renew 317 = .ok (.ifCond .eq 13, 3) := by decide +kernel
theorem dX12_renew_320 : decode cX12_renew 320 = .ok (.aload_n 0, 1) := by decide +kernel
theorem dX12_renew_321 : decode cX12_renew 321 = .ok (.iconst 0, 1) := by decide +kernel
theorem dX12_renew_322 : decode cX12_renew 322 = .ok (.invokevirtual 727, 3) := by decide +kernel
theorem dX12_renew_325 : decode cX12_renew 325 = .ok (.aload_n 0, 1) := by decide +kernel
theorem dX12_renew_326 : decode cX12_renew 326 = .ok (.iconst 1, 1) := by decide +kernel
theorem dX12_renew_327 : decode cX12_renew 327 = .ok (.invokevirtual 727, 3) := by decide +kernel
theorem dX12_renew_330 : decode cX12_renew 330 = .ok (.return_, 1) := by decide +kernel
abbrev cs_t_X12_renew_0 (cB cI cJ cZ : ClassId) (h0 : Nat) (a : Nat → Nat) (f : Nat → Int32) (w : Int64) (x : Int32) : va_W := [(h0, .inr (13, moF a f w))]
abbrev pc_t_X12_renew_0 (dC : Nat → ClassId) (dI : Nat → Nat → Nat) (sz : Nat) (cB cI cJ cZ : ClassId) (h0 : Nat) (a : Nat → Nat) (f : Nat → Int32) (w : Int64) (x : Int32) : Array Value → State → Prop := va_Pc [.ref h0, .int x] (fun U => U.heap.size = sz ∧ va_P (dC, dI) vwCl [(h0, .inr (13, moF a f w))] U.heap ∧ va_K (dC, dI) vwCl [(cB, .byte), (cI, .int), (cJ, .long), (cZ, .boolean)] U ∧ va_D (fun _ => True) [(h0, .inr (13, moF a f w))])
abbrev qc_t_X12_renew_0 (dC : Nat → ClassId) (dI : Nat → Nat → Nat) (cB cI cJ cZ : ClassId) (h0 : Nat) (a : Nat → Nat) (f : Nat → Int32) (w : Int64) (x : Int32) (A : Nat → Prop) : Array Value → State → Outcome → State → Prop := va_Qv (fun (u : Unit) => match u with | _ => True) (fun (u : Unit) t_ => match u with | _ => va_P (dC, dI) vwCl [(h0, .inr (13, moF a f w))] t_.heap ∧ va_K (dC, dI) vwCl [(cB, .byte), (cI, .int), (cJ, .long), (cZ, .boolean)] t_ ∧ va_D A [(h0, .inr (13, moF a f w))]) A
set_option maxHeartbeats 4000000 in
set_option maxRecDepth 100000 in
theorem t_X12_renew_0 (l : Launch) (dC : Nat → ClassId) (dI : Nat → Nat → Nat) (sz : Nat) (cB cI cJ cZ : ClassId) (h0 : Nat) (a : Nat → Nat) (f : Nat → Int32) (w : Int64) (x : Int32) (hhq : f 81 = 0) : Met l yX12_renew (wsOf yX12_renew cX12_renew 8 none) ({ frames := 0, cells := 0, slots := 0, locals := 0 }) (pc_t_X12_renew_0 dC dI sz cB cI cJ cZ h0 a f w x) (qc_t_X12_renew_0 dC dI cB cI cJ cZ h0 a f w x (va_A (cs_t_X12_renew_0 cB cI cJ cZ h0 a f w x) sz)) 0 0 (va_A (cs_t_X12_renew_0 cB cI cJ cZ h0 a f w x) sz) := by
  refine Met.ofW (cc := cX12_renew) (maxL := 8) (ret := none) (by decide) rfl ?_
  intro p e s m args below meth c s₁ B hml hv
  obtain ⟨rfl, hsz, hP, hK, hD0⟩ := hv
  have hx := B.exec
  have hb := B.bytes
  have hr := B.returns
  have hts := atoms_spec (ws := (wsOf yX12_renew cX12_renew 8 none)) B.pre
  have hown : s.vm.findClass RX12 = some m.cls := findClass_of_methodNamed B.named
  have hlocks := B.notSynchronized
  subst hsz
  have hD := hD0.self (sz := s.heap.size)
  generalize hAe : va_A (cs_t_X12_renew_0 cB cI cJ cZ h0 a f w x) s.heap.size = A at hD ⊢
  have hA : ∀ q : Nat, s.heap.size ≤ q → A q := fun q h => by rw [← hAe]; exact Or.inr h
  have hS : va_S A s.heap s.heap [] := va_S.rf
  have hP : va_P (dC, dI) vwCl [(h0, .inr (13, moF a f w))] s.heap := hP
  have hl := lv_entry ([.ref h0, .int x]) (n := 8) (Nat.le_of_ble_eq_true rfl)
  rw [lg_entry_eq]
  generalize (lg_sl ([.ref h0, .int x]) ++ List.replicate (8 - (lg_sl ([.ref h0, .int x])).length) Slot.unset).toArray = ls at hl ⊢
  have hl : lv_has ls 8 [(0, .ref h0), (1, .int x)] := hl
  refine lv_aload_n hx hb dX12_renew_0 rfl (lv_at hl 0 rfl) ?_
  refine va_get (D := (dC, dI)) (ci := 13) (v := .int (f 81)) (C := RX12) (T := TX12) (N := 115) hx hb hts (fun w h => List.mem_cons_of_mem _ (uG_X12 w h)) hown hK hP 0 rfl rfl 81 (by decide) (hts _ (List.mem_cons_of_mem _ kw_1772)) (fun _ h9 => h9) rfl dX12_renew_1 ?_
  refine lv_if_ne (tgt := 8) hx hb dX12_renew_4 (by decide) (fun c_1 => ?_) (fun c_1 => ?_)
  · skip
    exact absurd hhq c_1
  · skip
    have hP9 := hP.sub (ws' := [(h0, .inr (13, moF a f w))]) [0] rfl
    have hD9 := hD.sub (ws' := [(h0, .inr (13, moF a f w))]) [0] (by decide) rfl
    have hK9 := hK.sub (tys' := [(cB, .byte), (cI, .int), (cJ, .long), (cZ, .boolean)]) [0, 1, 2, 3] rfl
    exact W.vret hx hb hr (fun t_ ht hW => ⟨⟨(), rfl, trivial, by rw [ht]; exact hP9, va_K.moved hW.alike hK9, hD9⟩, hS.F ht⟩) hS.2.2 dX12_renew_7
theorem dX12_watermark_0 : decode cX12_watermark 0 = .ok (.aload_n 0, 1) := by decide +kernel
theorem dX12_watermark_1 : decode cX12_watermark 1 = .ok (.iconst 0, 1) := by decide +kernel
theorem dX12_watermark_2 : decode cX12_watermark 2 = .ok (.putfield 271, 3) := by decide +kernel
theorem dX12_watermark_5 : decode cX12_watermark 5 = .ok (.lload_n 1, 1) := by decide +kernel
theorem dX12_watermark_6 : decode cX12_watermark 6 = .ok (.aload_n 0, 1) := by decide +kernel
theorem dX12_watermark_7 : decode cX12_watermark 7 = .ok (.getfield 249, 3) := by decide +kernel
theorem dX12_watermark_10 : decode cX12_watermark 10 = .ok (.lcmp, 1) := by decide +kernel
theorem dX12_watermark_11 : decode cX12_watermark 11 = .ok (.ifCond .le 13, 3) := by decide +kernel
theorem dX12_watermark_14 : decode cX12_watermark 14 = .ok (.aload_n 0, 1) := by decide +kernel
theorem dX12_watermark_15 : decode cX12_watermark 15 = .ok (.lload_n 1, 1) := by decide +kernel
theorem dX12_watermark_16 : decode cX12_watermark 16 = .ok (.putfield 249, 3) := by decide +kernel
theorem dX12_watermark_19 : decode cX12_watermark 19 = .ok (.aload_n 0, 1) := by decide +kernel
theorem dX12_watermark_20 : decode cX12_watermark 20 = .ok (.iconst 1, 1) := by decide +kernel
theorem dX12_watermark_21 : decode cX12_watermark 21 = .ok (.invokevirtual 274, 3) := by decide +kernel
theorem dX12_watermark_24 : decode cX12_watermark 24 = .ok (.aload_n 0, 1) := by decide +kernel
theorem dX12_watermark_25 : decode cX12_watermark 25 = .ok (.getfield 271, 3) := by decide +kernel
theorem dX12_watermark_28 : decode cX12_watermark 28 = .ok (.ireturn, 1) := by decide +kernel
abbrev cs_t_X12_watermark_0 (cB cI cJ cZ : ClassId) (h0 : Nat) (a : Nat → Nat) (f : Nat → Int32) (w : Int64) (x : Int64) : va_W := [(h0, .inr (13, moF a f w))]
abbrev pc_t_X12_watermark_0 (dC : Nat → ClassId) (dI : Nat → Nat → Nat) (sz : Nat) (cB cI cJ cZ : ClassId) (h0 : Nat) (a : Nat → Nat) (f : Nat → Int32) (w : Int64) (x : Int64) : Array Value → State → Prop := va_Pc [.ref h0, .long x] (fun U => U.heap.size = sz ∧ va_P (dC, dI) vwCl [(h0, .inr (13, moF a f w))] U.heap ∧ va_K (dC, dI) vwCl [(cB, .byte), (cI, .int), (cJ, .long), (cZ, .boolean)] U ∧ va_D (fun _ => True) [(h0, .inr (13, moF a f w))])
abbrev qc_t_X12_watermark_0 (dC : Nat → ClassId) (dI : Nat → Nat → Nat) (cB cI cJ cZ : ClassId) (h0 : Nat) (a : Nat → Nat) (f : Nat → Int32) (w : Int64) (x : Int64) (A : Nat → Prop) : Array Value → State → Outcome → State → Prop := va_Qi (fun (r : Int32) (u : Int64) => match u with | w2 => r = 0 ∧ w2 = if x ≤ w then w else x) (fun (u : Int64) t_ => match u with | w2 => va_P (dC, dI) vwCl [(h0, .inr (13, moF a (upd f 110 0) w2))] t_.heap ∧ va_K (dC, dI) vwCl [(cB, .byte), (cI, .int), (cJ, .long), (cZ, .boolean)] t_ ∧ va_D A [(h0, .inr (13, moF a (upd f 110 0) w2))]) A
set_option maxHeartbeats 4000000 in
set_option maxRecDepth 100000 in
theorem t_X12_watermark_0 (l : Launch) (dC : Nat → ClassId) (dI : Nat → Nat → Nat) (sz : Nat) (cB cI cJ cZ : ClassId) (h0 : Nat) (a : Nat → Nat) (f : Nat → Int32) (w : Int64) (x : Int64) (hhq : f 81 = 0) : Met l yX12_watermark (wsOf yX12_watermark cX12_watermark 3 (some .int)) ({ frames := 1, cells := 0, slots := 0, locals := 60 }) (pc_t_X12_watermark_0 dC dI sz cB cI cJ cZ h0 a f w x) (qc_t_X12_watermark_0 dC dI cB cI cJ cZ h0 a f w x (va_A (cs_t_X12_watermark_0 cB cI cJ cZ h0 a f w x) sz)) 0 0 (va_A (cs_t_X12_watermark_0 cB cI cJ cZ h0 a f w x) sz) := by
  refine Met.ofW (cc := cX12_watermark) (maxL := 3) (ret := (some .int)) (by decide) rfl ?_
  intro p e s m args below meth c s₁ B hml hv
  obtain ⟨rfl, hsz, hP, hK, hD0⟩ := hv
  have hx := B.exec
  have hb := B.bytes
  have hr := B.returns
  have hts := atoms_spec (ws := (wsOf yX12_watermark cX12_watermark 3 (some .int))) B.pre
  have hown : s.vm.findClass RX12 = some m.cls := findClass_of_methodNamed B.named
  have hlocks := B.notSynchronized
  subst hsz
  have hD := hD0.self (sz := s.heap.size)
  generalize hAe : va_A (cs_t_X12_watermark_0 cB cI cJ cZ h0 a f w x) s.heap.size = A at hD ⊢
  have hA : ∀ q : Nat, s.heap.size ≤ q → A q := fun q h => by rw [← hAe]; exact Or.inr h
  have hS : va_S A s.heap s.heap [] := va_S.rf
  have hP : va_P (dC, dI) vwCl [(h0, .inr (13, moF a f w))] s.heap := hP
  have hl := lv_entry ([.ref h0, .long x]) (n := 3) (Nat.le_of_ble_eq_true rfl)
  rw [lg_entry_eq]
  generalize (lg_sl ([.ref h0, .long x]) ++ List.replicate (3 - (lg_sl ([.ref h0, .long x])).length) Slot.unset).toArray = ls at hl ⊢
  have hl : lv_has ls 3 [(0, .ref h0), (1, .long x)] := hl
  refine lv_aload_n hx hb dX12_watermark_0 rfl (lv_at hl 0 rfl) ?_
  refine lv_iconst (v := 0) hx hb dX12_watermark_1 (by decide) ?_
  refine va_put (D := (dC, dI)) (ci := 13) (v := .int 0) (ty := .int) (C := RX12) (T := TX12) (N := 115) hx hb hts (fun w h => List.mem_cons_of_mem _ (uG_X12 w h)) tyX12 tyX12_ok nmX12 hown hK hP hD hS 0 rfl rfl 110 (by decide) (hts _ (List.mem_cons_of_mem _ kw_1801)) (fun _ h9 => h9) rfl (by decide +kernel) rfl rfl (Nat.le_of_ble_eq_true rfl) dX12_watermark_2 (fun H locs hP hD hS => ?_)
  have hP : va_P (dC, dI) vwCl [(h0, .inr (13, moF a (upd f 110 0) w))] H := hP
  have hD : va_D A [(h0, .inr (13, moF a (upd f 110 0) w))] := hD
  refine lv_lload_n hx hb dX12_watermark_5 rfl (lv_at hl 1 rfl) ?_
  refine lv_aload_n hx hb dX12_watermark_6 rfl (lv_at hl 0 rfl) ?_
  refine va_get (D := (dC, dI)) (ci := 13) (v := .long w) (C := RX12) (T := TX12) (N := 115) hx hb hts (fun w h => List.mem_cons_of_mem _ (uG_X12 w h)) hown hK hP 0 rfl rfl 10 (by decide) (hts _ (List.mem_cons_of_mem _ kw_1701)) (fun _ h9 => h9) rfl dX12_watermark_7 ?_
  refine W.lcmp hx hb dX12_watermark_10 ?_
  refine lv_if_le (tgt := 24) hx hb dX12_watermark_11 (by decide) (fun c_1 => ?_) (fun c_1 => ?_)
  · skip
    have c_1 : x ≤ w := (lg_cmp_le x w).mp c_1
    refine lv_aload_n hx hb dX12_watermark_24 rfl (lv_at hl 0 rfl) ?_
    refine va_get (D := (dC, dI)) (ci := 13) (v := .int 0) (C := RX12) (T := TX12) (N := 115) hx hb hts (fun w h => List.mem_cons_of_mem _ (uG_X12 w h)) hown hK hP 0 rfl rfl 110 (by decide) (hts _ (List.mem_cons_of_mem _ kw_1801)) (fun _ h9 => h9) rfl dX12_watermark_25 ?_
    have hP9 := hP.sub (ws' := [(h0, .inr (13, moF a (upd f 110 0) w))]) [0] rfl
    have hD9 := hD.sub (ws' := [(h0, .inr (13, moF a (upd f 110 0) w))]) [0] (by decide) rfl
    have hK9 := hK.sub (tys' := [(cB, .byte), (cI, .int), (cJ, .long), (cZ, .boolean)]) [0, 1, 2, 3] rfl
    exact W.iret (v := 0) hx hb hr (fun t_ ht hW => ⟨⟨0, w, rfl, ⟨rfl, (if_pos c_1).symm⟩, by rw [ht]; exact hP9, va_K.moved hW.alike hK9, hD9⟩, hS.F ht⟩) hS.2.2 dX12_watermark_28
  · skip
    have c_1 : ¬ (x ≤ w) := fun h => c_1 ((lg_cmp_le x w).mpr h)
    refine lv_aload_n hx hb dX12_watermark_14 rfl (lv_at hl 0 rfl) ?_
    refine lv_lload_n hx hb dX12_watermark_15 rfl (lv_at hl 1 rfl) ?_
    refine va_put (D := (dC, dI)) (ci := 13) (v := .long x) (ty := .long) (C := RX12) (T := TX12) (N := 115) hx hb hts (fun w h => List.mem_cons_of_mem _ (uG_X12 w h)) tyX12 tyX12_ok nmX12 hown hK hP hD hS 0 rfl rfl 10 (by decide) (hts _ (List.mem_cons_of_mem _ kw_1701)) (fun _ h9 => h9) rfl (by decide +kernel) rfl rfl (Nat.le_of_ble_eq_true rfl) dX12_watermark_16 (fun H locs hP hD hS => ?_)
    have hP : va_P (dC, dI) vwCl [(h0, .inr (13, moF a (upd f 110 0) x))] H := hP
    have hD : va_D A [(h0, .inr (13, moF a (upd f 110 0) x))] := hD
    refine lv_aload_n hx hb dX12_watermark_19 rfl (lv_at hl 0 rfl) ?_
    refine lv_iconst (v := 1) hx hb dX12_watermark_20 (by decide) ?_
    have hPc := hP.sub (ws' := [(h0, .inr (13, moF a (upd f 110 0) x))]) [0] rfl
    have hDc := hD.sub (ws' := [(h0, .inr (13, moF a (upd f 110 0) x))]) [0] (by decide) rfl
    have hKc := hK.sub (tys' := [(cB, .byte), (cI, .int), (cJ, .long), (cZ, .boolean)]) [0, 1, 2, 3] rfl
    have hFc := va_free (wc := [(h0, .inr (13, moF a (upd f 110 0) x))]) hD hS hA [0] rfl
    refine va_callv (va_runV (As := [.int 1]) (rest := []) ⟨hx, hb, hml, hown, hts⟩ (t_X12_renew_0 l dC dI H.size cB cI cJ cZ h0 a (upd f 110 0) x 1 hhq) (cwV 1 hts (gd_all (in_V kw_2070 kw_2072 kw_99 kw_191 kc_X12_renew)) rfl rfl rfl (by decide +kernel) ⟨Nat.le_of_ble_eq_true rfl, Nat.le_of_ble_eq_true rfl⟩) ⟨fun a U g mk q => by obtain ⟨q0, q1, qP, qK, qD⟩ := q; exact ⟨q0, q1, qP, va_K.moved (u := U) (U := U.calling g mk a) (Vm.Alike.refl U.vm) qK, qD⟩, va_recv hKc hPc (ci := 13) (q0 := 0) rfl rfl, fun U hU hW => ⟨rfl, by rw [hU], by rw [hU]; exact hPc, va_K.moved hW.alike hKc, hDc.weaken (fun _ _ _ _ => trivial)⟩⟩ rfl rfl hl.1 rfl (lv_room (Nat.le_of_ble_eq_true rfl)) dX12_watermark_21 ⟨Nat.le_of_ble_eq_true rfl, Nat.le_of_ble_eq_true rfl⟩) hS (fun q _ h => hFc q h) hFc (fun u t_ H1 locs ht hvm hw hB hz1 hk1 hS => ?_)
    obtain ⟨hP1, hK1, hD1⟩ := hB
    rw [ht] at hP1
    have hK1 := va_K.moved hvm.symm hK1
    obtain ⟨hP, hD⟩ := va_join (wr := []) (w1 := [(h0, .inr (13, moF a (upd f 110 0) x))]) hP hD [0] [] rfl rfl (by decide) (by decide) hk1 hFc hP1 hD1
    have hK := (hK.sub (tys' := []) [] rfl).app hK1
    generalize H1 = H at hP hS ⊢
    have hP : va_P (dC, dI) vwCl [(h0, .inr (13, moF a (upd f 110 0) x))] H := hP
    have hD : va_D A [(h0, .inr (13, moF a (upd f 110 0) x))] := hD
    have hK : va_K (dC, dI) vwCl [(cB, .byte), (cI, .int), (cJ, .long), (cZ, .boolean)] s := hK
    refine lv_aload_n hx hb dX12_watermark_24 rfl (lv_at hl 0 rfl) ?_
    refine va_get (D := (dC, dI)) (ci := 13) (v := .int 0) (C := RX12) (T := TX12) (N := 115) hx hb hts (fun w h => List.mem_cons_of_mem _ (uG_X12 w h)) hown hK hP 0 rfl rfl 110 (by decide) (hts _ (List.mem_cons_of_mem _ kw_1801)) (fun _ h9 => h9) rfl dX12_watermark_25 ?_
    have hP9 := hP.sub (ws' := [(h0, .inr (13, moF a (upd f 110 0) x))]) [0] rfl
    have hD9 := hD.sub (ws' := [(h0, .inr (13, moF a (upd f 110 0) x))]) [0] (by decide) rfl
    have hK9 := hK.sub (tys' := [(cB, .byte), (cI, .int), (cJ, .long), (cZ, .boolean)]) [0, 1, 2, 3] rfl
    exact W.iret (v := 0) hx hb hr (fun t_ ht hW => ⟨⟨0, x, rfl, ⟨rfl, (if_neg c_1).symm⟩, by rw [ht]; exact hP9, va_K.moved hW.alike hK9, hD9⟩, hS.F ht⟩) hS.2.2 dX12_watermark_28
theorem dX12_type_0 : decode cX12_type 0 = .ok (.aload_n 0, 1) := by decide +kernel
theorem dX12_type_1 : decode cX12_type 1 = .ok (.getfield 584, 3) := by decide +kernel
theorem dX12_type_4 : decode cX12_type 4 = .ok (.ifCond .eq 34, 3) := by decide +kernel
theorem dX12_type_7 : decode cX12_type 7 = .ok (.iload_n 1, 1) := by decide +kernel
theorem dX12_type_8 : decode cX12_type 8 = .ok (.ifCond .lt 30, 3) := by decide +kernel
theorem dX12_type_11 : decode cX12_type 11 = .ok (.iload_n 1, 1) := by decide +kernel
theorem dX12_type_12 : decode cX12_type 12 = .ok (.aload_n 0, 1) := by decide +kernel
theorem dX12_type_13 : decode cX12_type 13 = .ok (.getfield 719, 3) := by decide +kernel
theorem dX12_type_16 : decode cX12_type 16 = .ok (.if_icmp .ge 22, 3) := by decide +kernel
theorem dX12_type_19 : decode cX12_type 19 = .ok (.aload_n 0, 1) := by decide +kernel
theorem dX12_type_20 : decode cX12_type 20 = .ok (.getfield 118, 3) := by decide +kernel
theorem dX12_type_23 : decode cX12_type 23 = .ok (.bipush 8, 2) := by decide +kernel
theorem dX12_type_25 : decode cX12_type 25 = .ok (.aload_n 0, 1) := by decide +kernel
theorem dX12_type_26 : decode cX12_type 26 = .ok (.getfield 160, 3) := by decide +kernel
theorem dX12_type_29 : decode cX12_type 29 = .ok (.iconst 0, 1) := by decide +kernel
theorem dX12_type_30 : decode cX12_type 30 = .ok (.iaload, 1) := by decide +kernel
theorem dX12_type_31 : decode cX12_type 31 = .ok (.imul, 1) := by decide +kernel
theorem dX12_type_32 : decode cX12_type 32 = .ok (.iload_n 1, 1) := by decide +kernel
theorem dX12_type_33 : decode cX12_type 33 = .ok (.iadd, 1) := by decide +kernel
theorem dX12_type_34 : decode cX12_type 34 = .ok (.iaload, 1) := by decide +kernel
theorem dX12_type_35 : decode cX12_type 35 = .ok (.goto 4, 3) := by decide +kernel
theorem dX12_type_38 : decode cX12_type 38 = .ok (.iconst 0, 1) := by decide +kernel
theorem dX12_type_39 : decode cX12_type 39 = .ok (.ireturn, 1) := by decide +kernel
abbrev cs_t_X12_type_0 (cB cI cJ cZ : ClassId) (h0 : Nat) (a : Nat → Nat) (f : Nat → Int32) (w : Int64) (x : Int32) : va_W := [(h0, .inr (13, moF a f w))]
abbrev pc_t_X12_type_0 (dC : Nat → ClassId) (dI : Nat → Nat → Nat) (sz : Nat) (cB cI cJ cZ : ClassId) (h0 : Nat) (a : Nat → Nat) (f : Nat → Int32) (w : Int64) (x : Int32) : Array Value → State → Prop := va_Pc [.ref h0, .int x] (fun U => U.heap.size = sz ∧ va_P (dC, dI) vwCl [(h0, .inr (13, moF a f w))] U.heap ∧ va_K (dC, dI) vwCl [(cB, .byte), (cI, .int), (cJ, .long), (cZ, .boolean)] U ∧ va_D (fun _ => True) [(h0, .inr (13, moF a f w))])
abbrev qc_t_X12_type_0 (dC : Nat → ClassId) (dI : Nat → Nat → Nat) (cB cI cJ cZ : ClassId) (h0 : Nat) (a : Nat → Nat) (f : Nat → Int32) (w : Int64) (x : Int32) (A : Nat → Prop) : Array Value → State → Outcome → State → Prop := va_Qi (fun (r : Int32) (u : Unit) => match u with | _ => r = 0) (fun (u : Unit) t_ => match u with | _ => va_P (dC, dI) vwCl [(h0, .inr (13, moF a f w))] t_.heap ∧ va_K (dC, dI) vwCl [(cB, .byte), (cI, .int), (cJ, .long), (cZ, .boolean)] t_ ∧ va_D A [(h0, .inr (13, moF a f w))]) A
set_option maxHeartbeats 4000000 in
set_option maxRecDepth 100000 in
theorem t_X12_type_0 (l : Launch) (dC : Nat → ClassId) (dI : Nat → Nat → Nat) (sz : Nat) (cB cI cJ cZ : ClassId) (h0 : Nat) (a : Nat → Nat) (f : Nat → Int32) (w : Int64) (x : Int32) (hhq : f 81 = 0) : Met l yX12_type (wsOf yX12_type cX12_type 2 (some .int)) ({ frames := 0, cells := 0, slots := 0, locals := 0 }) (pc_t_X12_type_0 dC dI sz cB cI cJ cZ h0 a f w x) (qc_t_X12_type_0 dC dI cB cI cJ cZ h0 a f w x (va_A (cs_t_X12_type_0 cB cI cJ cZ h0 a f w x) sz)) 0 0 (va_A (cs_t_X12_type_0 cB cI cJ cZ h0 a f w x) sz) := by
  refine Met.ofW (cc := cX12_type) (maxL := 2) (ret := (some .int)) (by decide) rfl ?_
  intro p e s m args below meth c s₁ B hml hv
  obtain ⟨rfl, hsz, hP, hK, hD0⟩ := hv
  have hx := B.exec
  have hb := B.bytes
  have hr := B.returns
  have hts := atoms_spec (ws := (wsOf yX12_type cX12_type 2 (some .int))) B.pre
  have hown : s.vm.findClass RX12 = some m.cls := findClass_of_methodNamed B.named
  have hlocks := B.notSynchronized
  subst hsz
  have hD := hD0.self (sz := s.heap.size)
  generalize hAe : va_A (cs_t_X12_type_0 cB cI cJ cZ h0 a f w x) s.heap.size = A at hD ⊢
  have hA : ∀ q : Nat, s.heap.size ≤ q → A q := fun q h => by rw [← hAe]; exact Or.inr h
  have hS : va_S A s.heap s.heap [] := va_S.rf
  have hP : va_P (dC, dI) vwCl [(h0, .inr (13, moF a f w))] s.heap := hP
  have hl := lv_entry ([.ref h0, .int x]) (n := 2) (Nat.le_of_ble_eq_true rfl)
  rw [lg_entry_eq]
  generalize (lg_sl ([.ref h0, .int x]) ++ List.replicate (2 - (lg_sl ([.ref h0, .int x])).length) Slot.unset).toArray = ls at hl ⊢
  have hl : lv_has ls 2 [(0, .ref h0), (1, .int x)] := hl
  refine lv_aload_n hx hb dX12_type_0 rfl (lv_at hl 0 rfl) ?_
  refine va_get (D := (dC, dI)) (ci := 13) (v := .int (f 81)) (C := RX12) (T := TX12) (N := 115) hx hb hts (fun w h => List.mem_cons_of_mem _ (uG_X12 w h)) hown hK hP 0 rfl rfl 81 (by decide) (hts _ (List.mem_cons_of_mem _ kw_1772)) (fun _ h9 => h9) rfl dX12_type_1 ?_
  refine lv_if_eq (tgt := 38) hx hb dX12_type_4 (by decide) (fun c_1 => ?_) (fun c_1 => ?_)
  · skip
    refine lv_iconst (v := 0) hx hb dX12_type_38 (by decide) ?_
    have hP9 := hP.sub (ws' := [(h0, .inr (13, moF a f w))]) [0] rfl
    have hD9 := hD.sub (ws' := [(h0, .inr (13, moF a f w))]) [0] (by decide) rfl
    have hK9 := hK.sub (tys' := [(cB, .byte), (cI, .int), (cJ, .long), (cZ, .boolean)]) [0, 1, 2, 3] rfl
    exact W.iret (v := 0) hx hb hr (fun t_ ht hW => ⟨⟨0, (), rfl, rfl, by rw [ht]; exact hP9, va_K.moved hW.alike hK9, hD9⟩, hS.F ht⟩) hS.2.2 dX12_type_39
  · skip
    exact absurd hhq c_1
theorem dX12_told_0 : decode cX12_told 0 = .ok (.iload_n 1, 1) := by decide +kernel
theorem dX12_told_1 : decode cX12_told 1 = .ok (.ifCond .ne 8, 3) := by decide +kernel
theorem dX12_told_4 : decode cX12_told 4 = .ok (.aload_n 0, 1) := by decide +kernel
theorem dX12_told_5 : decode cX12_told 5 = .ok (.getfield 261, 3) := by decide +kernel
theorem dX12_told_8 : decode cX12_told 8 = .ok (.ireturn, 1) := by decide +kernel
theorem dX12_told_9 : decode cX12_told 9 = .ok (.iconst 0, 1) := by decide +kernel
theorem dX12_told_10 : decode cX12_told 10 = .ok (.istore_n 2, 1) := by decide +kernel
theorem dX12_told_11 : decode cX12_told 11 = .ok (.iload_n 1, 1) := by decide +kernel
theorem dX12_told_12 : decode cX12_told 12 = .ok (.iconst 1, 1) := by decide +kernel
theorem dX12_told_13 : decode cX12_told 13 = .ok (.if_icmp .ne 36, 3) := by decide +kernel
theorem dX12_told_16 : decode cX12_told 16 = .ok (.iconst 0, 1) := by decide +kernel
theorem dX12_told_17 : decode cX12_told 17 = .ok (.istore_n 3, 1) := by decide +kernel
theorem dX12_told_18 : decode cX12_told 18 = .ok (.iload_n 3, 1) := by decide +kernel
theorem dX12_told_19 : decode cX12_told 19 = .ok (.bipush 48, 2) := by decide +kernel
theorem dX12_told_21 : decode cX12_told 21 = .ok (.if_icmp .ge 26, 3) := by decide +kernel
theorem dX12_told_24 : decode cX12_told 24 = .ok (.iload_n 2, 1) := by decide +kernel
theorem dX12_told_25 : decode cX12_told 25 = .ok (.aload_n 0, 1) := by decide +kernel
theorem dX12_told_26 : decode cX12_told 26 = .ok (.getfield 20, 3) := by decide +kernel
theorem dX12_told_29 : decode cX12_told 29 = .ok (.iload_n 3, 1) := by decide +kernel
theorem dX12_told_30 : decode cX12_told 30 = .ok (.baload, 1) := by decide +kernel
theorem dX12_told_31 : decode cX12_told 31 = .ok (.ifCond .eq 7, 3) := by decide +kernel
theorem dX12_told_34 : decode cX12_told 34 = .ok (.iconst 1, 1) := by decide +kernel
theorem dX12_told_35 : decode cX12_told 35 = .ok (.goto 4, 3) := by decide +kernel
theorem dX12_told_38 : decode cX12_told 38 = .ok (.iconst 0, 1) := by decide +kernel
theorem dX12_told_39 : decode cX12_told 39 = .ok (.iadd, 1) := by decide +kernel
theorem dX12_told_40 : decode cX12_told 40 = .ok (.istore_n 2, 1) := by decide +kernel
theorem dX12_told_41 : decode cX12_told 41 = .ok (.iinc 3 1, 3) := by decide +kernel
theorem dX12_told_44 : decode cX12_told 44 = .ok (.goto (-26), 3) := by decide +kernel
theorem dX12_told_47 : decode cX12_told 47 = .ok (.iload_n 2, 1) := by decide +kernel
theorem dX12_told_48 : decode cX12_told 48 = .ok (.ireturn, 1) := by decide +kernel
theorem dX12_told_49 : decode cX12_told 49 = .ok (.iload_n 1, 1) := by decide +kernel
theorem dX12_told_50 : decode cX12_told 50 = .ok (.iconst 2, 1) := by decide +kernel
theorem dX12_told_51 : decode cX12_told 51 = .ok (.if_icmp .ne 113, 3) := by decide +kernel
theorem dX12_told_54 : decode cX12_told 54 = .ok (.iconst 0, 1) := by decide +kernel
theorem dX12_told_55 : decode cX12_told 55 = .ok (.istore_n 3, 1) := by decide +kernel
theorem dX12_told_56 : decode cX12_told 56 = .ok (.aload_n 0, 1) := by decide +kernel
theorem dX12_told_57 : decode cX12_told 57 = .ok (.getfield 584, 3) := by decide +kernel
theorem dX12_told_60 : decode cX12_told 60 = .ok (.ifCond .eq 102, 3) := by decide +kernel
theorem dX12_told_63 : decode cX12_told 63 = .ok (.iload_n 3, 1) := by decide +kernel
theorem dX12_told_64 : decode cX12_told 64 = .ok (.aload_n 0, 1) := by decide +kernel
theorem dX12_told_65 : decode cX12_told 65 = .ok (.getfield 477, 3) := by decide +kernel
theorem dX12_told_68 : decode cX12_told 68 = .ok (.if_icmp .ge 94, 3) := by decide +kernel
theorem dX12_told_71 : decode cX12_told 71 = .ok (.iconst 0, 1) := by decide +kernel
theorem dX12_told_72 : decode cX12_told 72 = .ok (.istore 4, 2) := by decide +kernel
theorem dX12_told_74 : decode cX12_told 74 = .ok (.iload 4, 2) := by decide +kernel
theorem dX12_told_76 : decode cX12_told 76 = .ok (.aload_n 0, 1) := by decide +kernel
theorem dX12_told_77 : decode cX12_told 77 = .ok (.getfield 91, 3) := by decide +kernel
theorem dX12_told_80 : decode cX12_told 80 = .ok (.iload_n 3, 1) := by decide +kernel
theorem dX12_told_81 : decode cX12_told 81 = .ok (.iaload, 1) := by decide +kernel
theorem dX12_told_82 : decode cX12_told 82 = .ok (.if_icmp .ge 74, 3) := by decide +kernel
theorem dX12_told_85 : decode cX12_told 85 = .ok (.iconst 3, 1) := by decide +kernel
theorem dX12_told_86 : decode cX12_told 86 = .ok (.iload_n 3, 1) := by decide +kernel
theorem dX12_told_87 : decode cX12_told 87 = .ok (.imul, 1) := by decide +kernel
theorem dX12_told_88 : decode cX12_told 88 = .ok (.iload 4, 2) := by decide +kernel
theorem dX12_told_90 : decode cX12_told 90 = .ok (.iadd, 1) := by decide +kernel
theorem dX12_told_91 : decode cX12_told 91 = .ok (.istore 5, 2) := by decide +kernel
theorem dX12_told_93 : decode cX12_told 93 = .ok (.iconst 0, 1) := by decide +kernel
theorem dX12_told_94 : decode cX12_told 94 = .ok (.istore 6, 2) := by decide +kernel
theorem dX12_told_96 : decode cX12_told 96 = .ok (.iload 6, 2) := by decide +kernel
theorem dX12_told_98 : decode cX12_told 98 = .ok (.bipush 8, 2) := by decide +kernel
theorem dX12_told_100 : decode cX12_told 100 = .ok (.if_icmp .ge 50, 3) := by decide +kernel
theorem dX12_told_103 : decode cX12_told 103 = .ok (.aload_n 0, 1) := by decide +kernel
theorem dX12_told_104 : decode cX12_told 104 = .ok (.getfield 127, 3) := by decide +kernel
theorem dX12_told_107 : decode cX12_told 107 = .ok (.iload 5, 2) := by decide +kernel
theorem dX12_told_109 : decode cX12_told 109 = .ok (.iaload, 1) := by decide +kernel
theorem dX12_told_110 : decode cX12_told 110 = .ok (.iconst (-1), 1) := by decide +kernel
theorem dX12_told_111 : decode cX12_told 111 = .ok (.if_icmp .eq 39, 3) := by decide +kernel
theorem dX12_told_114 : decode cX12_told 114 = .ok (.iload_n 2, 1) := by decide +kernel
theorem dX12_told_115 : decode cX12_told 115 = .ok (.aload_n 0, 1) := by decide +kernel
theorem dX12_told_116 : decode cX12_told 116 = .ok (.iload 5, 2) := by decide +kernel
theorem dX12_told_118 : decode cX12_told 118 = .ok (.bipush 8, 2) := by decide +kernel
theorem dX12_told_120 : decode cX12_told 120 = .ok (.aload_n 0, 1) := by decide +kernel
theorem dX12_told_121 : decode cX12_told 121 = .ok (.getfield 127, 3) := by decide +kernel
theorem dX12_told_124 : decode cX12_told 124 = .ok (.iload 5, 2) := by decide +kernel
theorem dX12_told_126 : decode cX12_told 126 = .ok (.iaload, 1) := by decide +kernel
theorem dX12_told_127 : decode cX12_told 127 = .ok (.imul, 1) := by decide +kernel
theorem dX12_told_128 : decode cX12_told 128 = .ok (.iload 6, 2) := by decide +kernel
theorem dX12_told_130 : decode cX12_told 130 = .ok (.iadd, 1) := by decide +kernel
theorem dX12_told_131 : decode cX12_told 131 = .ok (.invokevirtual 665, 3) := by decide +kernel
theorem dX12_told_134 : decode cX12_told 134 = .ok (.ifCond .eq 7, 3) := by decide +kernel
theorem dX12_told_137 : decode cX12_told 137 = .ok (.iconst 1, 1) := by decide +kernel
theorem dX12_told_138 : decode cX12_told 138 = .ok (.goto 4, 3) := by decide +kernel
theorem dX12_told_141 : decode cX12_told 141 = .ok (.iconst 0, 1) := by decide +kernel
theorem dX12_told_142 : decode cX12_told 142 = .ok (.iadd, 1) := by decide +kernel
theorem dX12_told_143 : decode cX12_told 143 = .ok (.istore_n 2, 1) := by decide +kernel
theorem dX12_told_144 : decode cX12_told 144 = .ok (.iinc 6 1, 3) := by decide +kernel
theorem dX12_told_147 : decode cX12_told 147 = .ok (.goto (-51), 3) := by decide +kernel
theorem dX12_told_150 : decode cX12_told 150 = .ok (.iinc 4 1, 3) := by decide +kernel
theorem dX12_told_153 : decode cX12_told 153 = .ok (.goto (-79), 3) := by decide +kernel
theorem dX12_told_156 : decode cX12_told 156 = .ok (.iinc 3 1, 3) := by decide +kernel
theorem dX12_told_159 : decode cX12_told 159 = .ok (.goto (-103), 3) := by decide +kernel
theorem dX12_told_162 : decode cX12_told 162 = .ok (.iload_n 2, 1) := by decide +kernel
theorem dX12_told_163 : decode cX12_told 163 = .ok (.ireturn, 1) := by decide +kernel
theorem dX12_told_164 : decode cX12_told 164 = .ok (.iload_n 1, 1) := by decide +kernel
theorem dX12_told_165 : decode cX12_told 165 = .ok (.iconst 3, 1) := by decide +kernel
theorem dX12_told_166 : decode cX12_told 166 = .ok (.if_icmp .ne 21, 3) := by decide +kernel
theorem dX12_told_169 : decode cX12_told 169 = .ok (.aload_n 0, 1) := by decide +kernel
theorem dX12_told_170 : decode cX12_told 170 = .ok (.getfield 584, 3) := by decide +kernel
theorem dX12_told_173 : decode cX12_told 173 = .ok (.ifCond .eq 10, 3) := by decide +kernel
theorem dX12_told_176 : decode cX12_told 176 = .ok (.aload_n 0, 1) := by decide +kernel
theorem dX12_told_177 : decode cX12_told 177 = .ok (.getfield 378, 3) := by decide +kernel
theorem dX12_told_180 : decode cX12_told 180 = .ok (.goto 51, 3) := by decide +kernel
theorem dX12_told_183 : decode cX12_told 183 = .ok (.iconst 0, 1) := by decide +kernel
theorem dX12_told_184 : decode cX12_told 184 = .ok (.goto 47, 3) := by decide +kernel
theorem dX12_told_187 : decode cX12_told 187 = .ok (.iload_n 1, 1) := by decide +kernel
theorem dX12_told_188 : decode cX12_told 188 = .ok (.iconst 4, 1) := by decide +kernel
theorem dX12_told_189 : decode cX12_told 189 = .ok (.if_icmp .ne 21, 3) := by decide +kernel
theorem dX12_told_192 : decode cX12_told 192 = .ok (.aload_n 0, 1) := by decide +kernel
theorem dX12_told_193 : decode cX12_told 193 = .ok (.getfield 584, 3) := by decide +kernel
theorem dX12_told_196 : decode cX12_told 196 = .ok (.ifCond .eq 10, 3) := by decide +kernel
theorem dX12_told_199 : decode cX12_told 199 = .ok (.aload_n 0, 1) := by decide +kernel
theorem dX12_told_200 : decode cX12_told 200 = .ok (.getfield 503, 3) := by decide +kernel
theorem dX12_told_203 : decode cX12_told 203 = .ok (.goto 28, 3) := by decide +kernel
theorem dX12_told_206 : decode cX12_told 206 = .ok (.iconst 0, 1) := by decide +kernel
theorem dX12_told_207 : decode cX12_told 207 = .ok (.goto 24, 3) := by decide +kernel
theorem dX12_told_210 : decode cX12_told 210 = .ok (.iload_n 1, 1) := by decide +kernel
theorem dX12_told_211 : decode cX12_told 211 = .ok (.iconst 5, 1) := by decide +kernel
theorem dX12_told_212 : decode cX12_told 212 = .ok (.if_icmp .ne 18, 3) := by decide +kernel
theorem dX12_told_215 : decode cX12_told 215 = .ok (.aload_n 0, 1) := by decide +kernel
theorem dX12_told_216 : decode cX12_told 216 = .ok (.getfield 584, 3) := by decide +kernel
theorem dX12_told_219 : decode cX12_told 219 = .ok (.ifCond .eq 7, 3) := by decide +kernel
theorem dX12_told_222 : decode cX12_told 222 = .ok (.iconst 1, 1) := by decide +kernel
theorem dX12_told_223 : decode cX12_told 223 = .ok (.goto 8, 3) := by decide +kernel
theorem dX12_told_226 : decode cX12_told 226 = .ok (.iconst 0, 1) := by decide +kernel
theorem dX12_told_227 : decode cX12_told 227 = .ok (.goto 4, 3) := by decide +kernel
theorem dX12_told_230 : decode cX12_told 230 = .ok (.iconst (-1), 1) := by decide +kernel
theorem dX12_told_231 : decode cX12_told 231 = .ok (.ireturn, 1) := by decide +kernel
abbrev cs_t_X12_told_0 (cB cI cJ cZ : ClassId) (h0 : Nat) (a : Nat → Nat) (f : Nat → Int32) (w : Int64) : va_W := [(h0, .inr (13, moF a f w))]
abbrev pc_t_X12_told_0 (dC : Nat → ClassId) (dI : Nat → Nat → Nat) (sz : Nat) (cB cI cJ cZ : ClassId) (h0 : Nat) (a : Nat → Nat) (f : Nat → Int32) (w : Int64) : Array Value → State → Prop := va_Pc [.ref h0, .int 0] (fun U => U.heap.size = sz ∧ va_P (dC, dI) vwCl [(h0, .inr (13, moF a f w))] U.heap ∧ va_K (dC, dI) vwCl [(cB, .byte), (cI, .int), (cJ, .long), (cZ, .boolean)] U ∧ va_D (fun _ => True) [(h0, .inr (13, moF a f w))])
abbrev qc_t_X12_told_0 (dC : Nat → ClassId) (dI : Nat → Nat → Nat) (cB cI cJ cZ : ClassId) (h0 : Nat) (a : Nat → Nat) (f : Nat → Int32) (w : Int64) (A : Nat → Prop) : Array Value → State → Outcome → State → Prop := va_Qi (fun (r : Int32) (u : Unit) => match u with | _ => r = f 4) (fun (u : Unit) t_ => match u with | _ => va_P (dC, dI) vwCl [(h0, .inr (13, moF a f w))] t_.heap ∧ va_K (dC, dI) vwCl [(cB, .byte), (cI, .int), (cJ, .long), (cZ, .boolean)] t_ ∧ va_D A [(h0, .inr (13, moF a f w))]) A
set_option maxHeartbeats 4000000 in
set_option maxRecDepth 100000 in
theorem t_X12_told_0 (l : Launch) (dC : Nat → ClassId) (dI : Nat → Nat → Nat) (sz : Nat) (cB cI cJ cZ : ClassId) (h0 : Nat) (a : Nat → Nat) (f : Nat → Int32) (w : Int64) (hhq : f 81 = 0) : Met l yX12_told (wsOf yX12_told cX12_told 7 (some .int)) ({ frames := 0, cells := 0, slots := 0, locals := 0 }) (pc_t_X12_told_0 dC dI sz cB cI cJ cZ h0 a f w) (qc_t_X12_told_0 dC dI cB cI cJ cZ h0 a f w (va_A (cs_t_X12_told_0 cB cI cJ cZ h0 a f w) sz)) 0 0 (va_A (cs_t_X12_told_0 cB cI cJ cZ h0 a f w) sz) := by
  refine Met.ofW (cc := cX12_told) (maxL := 7) (ret := (some .int)) (by decide) rfl ?_
  intro p e s m args below meth c s₁ B hml hv
  obtain ⟨rfl, hsz, hP, hK, hD0⟩ := hv
  have hx := B.exec
  have hb := B.bytes
  have hr := B.returns
  have hts := atoms_spec (ws := (wsOf yX12_told cX12_told 7 (some .int))) B.pre
  have hown : s.vm.findClass RX12 = some m.cls := findClass_of_methodNamed B.named
  have hlocks := B.notSynchronized
  subst hsz
  have hD := hD0.self (sz := s.heap.size)
  generalize hAe : va_A (cs_t_X12_told_0 cB cI cJ cZ h0 a f w) s.heap.size = A at hD ⊢
  have hA : ∀ q : Nat, s.heap.size ≤ q → A q := fun q h => by rw [← hAe]; exact Or.inr h
  have hS : va_S A s.heap s.heap [] := va_S.rf
  have hP : va_P (dC, dI) vwCl [(h0, .inr (13, moF a f w))] s.heap := hP
  have hl := lv_entry ([.ref h0, .int 0]) (n := 7) (Nat.le_of_ble_eq_true rfl)
  rw [lg_entry_eq]
  generalize (lg_sl ([.ref h0, .int 0]) ++ List.replicate (7 - (lg_sl ([.ref h0, .int 0])).length) Slot.unset).toArray = ls at hl ⊢
  have hl : lv_has ls 7 [(0, .ref h0), (1, .int 0)] := hl
  refine lv_iload_n hx hb dX12_told_0 rfl (lv_at hl 1 rfl) ?_
  refine lv_if_ne (tgt := 9) hx hb dX12_told_1 (by decide) (fun c_1 => ?_) (fun c_1 => ?_)
  · skip
    exact absurd c_1 (by decide)
  · skip
    refine lv_aload_n hx hb dX12_told_4 rfl (lv_at hl 0 rfl) ?_
    refine va_get (D := (dC, dI)) (ci := 13) (v := .int (f 4)) (C := RX12) (T := TX12) (N := 115) hx hb hts (fun w h => List.mem_cons_of_mem _ (uG_X12 w h)) hown hK hP 0 rfl rfl 4 (by decide) (hts _ (List.mem_cons_of_mem _ kw_1695)) (fun _ h9 => h9) rfl dX12_told_5 ?_
    have hP9 := hP.sub (ws' := [(h0, .inr (13, moF a f w))]) [0] rfl
    have hD9 := hD.sub (ws' := [(h0, .inr (13, moF a f w))]) [0] (by decide) rfl
    have hK9 := hK.sub (tys' := [(cB, .byte), (cI, .int), (cJ, .long), (cZ, .boolean)]) [0, 1, 2, 3] rfl
    exact W.iret (v := (f 4)) hx hb hr (fun t_ ht hW => ⟨⟨(f 4), (), rfl, rfl, by rw [ht]; exact hP9, va_K.moved hW.alike hK9, hD9⟩, hS.F ht⟩) hS.2.2 dX12_told_8
abbrev cs_t_X12_told_2 (cB cI cJ cZ : ClassId) (h0 : Nat) (a : Nat → Nat) (f : Nat → Int32) (w : Int64) : va_W := [(h0, .inr (13, moF a f w))]
abbrev pc_t_X12_told_2 (dC : Nat → ClassId) (dI : Nat → Nat → Nat) (sz : Nat) (cB cI cJ cZ : ClassId) (h0 : Nat) (a : Nat → Nat) (f : Nat → Int32) (w : Int64) : Array Value → State → Prop := va_Pc [.ref h0, .int 2] (fun U => U.heap.size = sz ∧ va_P (dC, dI) vwCl [(h0, .inr (13, moF a f w))] U.heap ∧ va_K (dC, dI) vwCl [(cB, .byte), (cI, .int), (cJ, .long), (cZ, .boolean)] U ∧ va_D (fun _ => True) [(h0, .inr (13, moF a f w))])
abbrev qc_t_X12_told_2 (dC : Nat → ClassId) (dI : Nat → Nat → Nat) (cB cI cJ cZ : ClassId) (h0 : Nat) (a : Nat → Nat) (f : Nat → Int32) (w : Int64) (A : Nat → Prop) : Array Value → State → Outcome → State → Prop := va_Qi (fun (r : Int32) (u : Unit) => match u with | _ => r = 0) (fun (u : Unit) t_ => match u with | _ => va_P (dC, dI) vwCl [(h0, .inr (13, moF a f w))] t_.heap ∧ va_K (dC, dI) vwCl [(cB, .byte), (cI, .int), (cJ, .long), (cZ, .boolean)] t_ ∧ va_D A [(h0, .inr (13, moF a f w))]) A
set_option maxHeartbeats 4000000 in
set_option maxRecDepth 100000 in
theorem t_X12_told_2 (l : Launch) (dC : Nat → ClassId) (dI : Nat → Nat → Nat) (sz : Nat) (cB cI cJ cZ : ClassId) (h0 : Nat) (a : Nat → Nat) (f : Nat → Int32) (w : Int64) (hhq : f 81 = 0) : Met l yX12_told (wsOf yX12_told cX12_told 7 (some .int)) ({ frames := 0, cells := 0, slots := 0, locals := 0 }) (pc_t_X12_told_2 dC dI sz cB cI cJ cZ h0 a f w) (qc_t_X12_told_2 dC dI cB cI cJ cZ h0 a f w (va_A (cs_t_X12_told_2 cB cI cJ cZ h0 a f w) sz)) 0 0 (va_A (cs_t_X12_told_2 cB cI cJ cZ h0 a f w) sz) := by
  refine Met.ofW (cc := cX12_told) (maxL := 7) (ret := (some .int)) (by decide) rfl ?_
  intro p e s m args below meth c s₁ B hml hv
  obtain ⟨rfl, hsz, hP, hK, hD0⟩ := hv
  have hx := B.exec
  have hb := B.bytes
  have hr := B.returns
  have hts := atoms_spec (ws := (wsOf yX12_told cX12_told 7 (some .int))) B.pre
  have hown : s.vm.findClass RX12 = some m.cls := findClass_of_methodNamed B.named
  have hlocks := B.notSynchronized
  subst hsz
  have hD := hD0.self (sz := s.heap.size)
  generalize hAe : va_A (cs_t_X12_told_2 cB cI cJ cZ h0 a f w) s.heap.size = A at hD ⊢
  have hA : ∀ q : Nat, s.heap.size ≤ q → A q := fun q h => by rw [← hAe]; exact Or.inr h
  have hS : va_S A s.heap s.heap [] := va_S.rf
  have hP : va_P (dC, dI) vwCl [(h0, .inr (13, moF a f w))] s.heap := hP
  have hl := lv_entry ([.ref h0, .int 2]) (n := 7) (Nat.le_of_ble_eq_true rfl)
  rw [lg_entry_eq]
  generalize (lg_sl ([.ref h0, .int 2]) ++ List.replicate (7 - (lg_sl ([.ref h0, .int 2])).length) Slot.unset).toArray = ls at hl ⊢
  have hl : lv_has ls 7 [(0, .ref h0), (1, .int 2)] := hl
  refine lv_iload_n hx hb dX12_told_0 rfl (lv_at hl 1 rfl) ?_
  refine lv_if_ne (tgt := 9) hx hb dX12_told_1 (by decide) (fun c_1 => ?_) (fun c_1 => ?_)
  · skip
    refine lv_iconst (v := 0) hx hb dX12_told_9 (by decide) ?_
    refine lv_istore_n (lv' := [(2, .int 0), (0, .ref h0), (1, .int 2)]) hx hb dX12_told_10 rfl hl (by decide) rfl (fun ls hl => ?_)
    refine lv_iload_n hx hb dX12_told_11 rfl (lv_at hl 2 rfl) ?_
    refine lv_iconst (v := 1) hx hb dX12_told_12 (by decide) ?_
    refine lv_icmp_ne (tgt := 49) hx hb dX12_told_13 (by decide) (fun c_2 => ?_) (fun c_2 => ?_)
    · skip
      refine lv_iload_n hx hb dX12_told_49 rfl (lv_at hl 2 rfl) ?_
      refine lv_iconst (v := 2) hx hb dX12_told_50 (by decide) ?_
      refine lv_icmp_ne (tgt := 164) hx hb dX12_told_51 (by decide) (fun c_3 => ?_) (fun c_3 => ?_)
      · skip
        exact absurd c_3 (by decide)
      · skip
        refine lv_iconst (v := 0) hx hb dX12_told_54 (by decide) ?_
        refine lv_istore_n (lv' := [(3, .int 0), (2, .int 0), (0, .ref h0), (1, .int 2)]) hx hb dX12_told_55 rfl hl (by decide) rfl (fun ls hl => ?_)
        refine lv_aload_n hx hb dX12_told_56 rfl (lv_at hl 2 rfl) ?_
        refine va_get (D := (dC, dI)) (ci := 13) (v := .int (f 81)) (C := RX12) (T := TX12) (N := 115) hx hb hts (fun w h => List.mem_cons_of_mem _ (uG_X12 w h)) hown hK hP 0 rfl rfl 81 (by decide) (hts _ (List.mem_cons_of_mem _ kw_1772)) (fun _ h9 => h9) rfl dX12_told_57 ?_
        refine lv_if_eq (tgt := 162) hx hb dX12_told_60 (by decide) (fun c_4 => ?_) (fun c_4 => ?_)
        · skip
          refine lv_iload_n hx hb dX12_told_162 rfl (lv_at hl 1 rfl) ?_
          have hP9 := hP.sub (ws' := [(h0, .inr (13, moF a f w))]) [0] rfl
          have hD9 := hD.sub (ws' := [(h0, .inr (13, moF a f w))]) [0] (by decide) rfl
          have hK9 := hK.sub (tys' := [(cB, .byte), (cI, .int), (cJ, .long), (cZ, .boolean)]) [0, 1, 2, 3] rfl
          exact W.iret (v := 0) hx hb hr (fun t_ ht hW => ⟨⟨0, (), rfl, rfl, by rw [ht]; exact hP9, va_K.moved hW.alike hK9, hD9⟩, hS.F ht⟩) hS.2.2 dX12_told_163
        · skip
          exact absurd hhq c_4
    · skip
      exact absurd c_2 (by decide)
  · skip
    exact absurd c_1 (by decide)
abbrev cs_t_X12_told_3 (cB cI cJ cZ : ClassId) (h0 : Nat) (a : Nat → Nat) (f : Nat → Int32) (w : Int64) : va_W := [(h0, .inr (13, moF a f w))]
abbrev pc_t_X12_told_3 (dC : Nat → ClassId) (dI : Nat → Nat → Nat) (sz : Nat) (cB cI cJ cZ : ClassId) (h0 : Nat) (a : Nat → Nat) (f : Nat → Int32) (w : Int64) : Array Value → State → Prop := va_Pc [.ref h0, .int 3] (fun U => U.heap.size = sz ∧ va_P (dC, dI) vwCl [(h0, .inr (13, moF a f w))] U.heap ∧ va_K (dC, dI) vwCl [(cB, .byte), (cI, .int), (cJ, .long), (cZ, .boolean)] U ∧ va_D (fun _ => True) [(h0, .inr (13, moF a f w))])
abbrev qc_t_X12_told_3 (dC : Nat → ClassId) (dI : Nat → Nat → Nat) (cB cI cJ cZ : ClassId) (h0 : Nat) (a : Nat → Nat) (f : Nat → Int32) (w : Int64) (A : Nat → Prop) : Array Value → State → Outcome → State → Prop := va_Qi (fun (r : Int32) (u : Unit) => match u with | _ => r = 0) (fun (u : Unit) t_ => match u with | _ => va_P (dC, dI) vwCl [(h0, .inr (13, moF a f w))] t_.heap ∧ va_K (dC, dI) vwCl [(cB, .byte), (cI, .int), (cJ, .long), (cZ, .boolean)] t_ ∧ va_D A [(h0, .inr (13, moF a f w))]) A
set_option maxHeartbeats 4000000 in
set_option maxRecDepth 100000 in
theorem t_X12_told_3 (l : Launch) (dC : Nat → ClassId) (dI : Nat → Nat → Nat) (sz : Nat) (cB cI cJ cZ : ClassId) (h0 : Nat) (a : Nat → Nat) (f : Nat → Int32) (w : Int64) (hhq : f 81 = 0) : Met l yX12_told (wsOf yX12_told cX12_told 7 (some .int)) ({ frames := 0, cells := 0, slots := 0, locals := 0 }) (pc_t_X12_told_3 dC dI sz cB cI cJ cZ h0 a f w) (qc_t_X12_told_3 dC dI cB cI cJ cZ h0 a f w (va_A (cs_t_X12_told_3 cB cI cJ cZ h0 a f w) sz)) 0 0 (va_A (cs_t_X12_told_3 cB cI cJ cZ h0 a f w) sz) := by
  refine Met.ofW (cc := cX12_told) (maxL := 7) (ret := (some .int)) (by decide) rfl ?_
  intro p e s m args below meth c s₁ B hml hv
  obtain ⟨rfl, hsz, hP, hK, hD0⟩ := hv
  have hx := B.exec
  have hb := B.bytes
  have hr := B.returns
  have hts := atoms_spec (ws := (wsOf yX12_told cX12_told 7 (some .int))) B.pre
  have hown : s.vm.findClass RX12 = some m.cls := findClass_of_methodNamed B.named
  have hlocks := B.notSynchronized
  subst hsz
  have hD := hD0.self (sz := s.heap.size)
  generalize hAe : va_A (cs_t_X12_told_3 cB cI cJ cZ h0 a f w) s.heap.size = A at hD ⊢
  have hA : ∀ q : Nat, s.heap.size ≤ q → A q := fun q h => by rw [← hAe]; exact Or.inr h
  have hS : va_S A s.heap s.heap [] := va_S.rf
  have hP : va_P (dC, dI) vwCl [(h0, .inr (13, moF a f w))] s.heap := hP
  have hl := lv_entry ([.ref h0, .int 3]) (n := 7) (Nat.le_of_ble_eq_true rfl)
  rw [lg_entry_eq]
  generalize (lg_sl ([.ref h0, .int 3]) ++ List.replicate (7 - (lg_sl ([.ref h0, .int 3])).length) Slot.unset).toArray = ls at hl ⊢
  have hl : lv_has ls 7 [(0, .ref h0), (1, .int 3)] := hl
  refine lv_iload_n hx hb dX12_told_0 rfl (lv_at hl 1 rfl) ?_
  refine lv_if_ne (tgt := 9) hx hb dX12_told_1 (by decide) (fun c_1 => ?_) (fun c_1 => ?_)
  · skip
    refine lv_iconst (v := 0) hx hb dX12_told_9 (by decide) ?_
    refine lv_istore_n (lv' := [(2, .int 0), (0, .ref h0), (1, .int 3)]) hx hb dX12_told_10 rfl hl (by decide) rfl (fun ls hl => ?_)
    refine lv_iload_n hx hb dX12_told_11 rfl (lv_at hl 2 rfl) ?_
    refine lv_iconst (v := 1) hx hb dX12_told_12 (by decide) ?_
    refine lv_icmp_ne (tgt := 49) hx hb dX12_told_13 (by decide) (fun c_2 => ?_) (fun c_2 => ?_)
    · skip
      refine lv_iload_n hx hb dX12_told_49 rfl (lv_at hl 2 rfl) ?_
      refine lv_iconst (v := 2) hx hb dX12_told_50 (by decide) ?_
      refine lv_icmp_ne (tgt := 164) hx hb dX12_told_51 (by decide) (fun c_3 => ?_) (fun c_3 => ?_)
      · skip
        refine lv_iload_n hx hb dX12_told_164 rfl (lv_at hl 2 rfl) ?_
        refine lv_iconst (v := 3) hx hb dX12_told_165 (by decide) ?_
        refine lv_icmp_ne (tgt := 187) hx hb dX12_told_166 (by decide) (fun c_4 => ?_) (fun c_4 => ?_)
        · skip
          exact absurd c_4 (by decide)
        · skip
          refine lv_aload_n hx hb dX12_told_169 rfl (lv_at hl 1 rfl) ?_
          refine va_get (D := (dC, dI)) (ci := 13) (v := .int (f 81)) (C := RX12) (T := TX12) (N := 115) hx hb hts (fun w h => List.mem_cons_of_mem _ (uG_X12 w h)) hown hK hP 0 rfl rfl 81 (by decide) (hts _ (List.mem_cons_of_mem _ kw_1772)) (fun _ h9 => h9) rfl dX12_told_170 ?_
          refine lv_if_eq (tgt := 183) hx hb dX12_told_173 (by decide) (fun c_5 => ?_) (fun c_5 => ?_)
          · skip
            refine lv_iconst (v := 0) hx hb dX12_told_183 (by decide) ?_
            refine lv_goto (tgt := 231) hx hb dX12_told_184 (by decide) ?_
            have hP9 := hP.sub (ws' := [(h0, .inr (13, moF a f w))]) [0] rfl
            have hD9 := hD.sub (ws' := [(h0, .inr (13, moF a f w))]) [0] (by decide) rfl
            have hK9 := hK.sub (tys' := [(cB, .byte), (cI, .int), (cJ, .long), (cZ, .boolean)]) [0, 1, 2, 3] rfl
            exact W.iret (v := 0) hx hb hr (fun t_ ht hW => ⟨⟨0, (), rfl, rfl, by rw [ht]; exact hP9, va_K.moved hW.alike hK9, hD9⟩, hS.F ht⟩) hS.2.2 dX12_told_231
          · skip
            exact absurd hhq c_5
      · skip
        exact absurd c_3 (by decide)
    · skip
      exact absurd c_2 (by decide)
  · skip
    exact absurd c_1 (by decide)
abbrev cs_t_X12_told_4 (cB cI cJ cZ : ClassId) (h0 : Nat) (a : Nat → Nat) (f : Nat → Int32) (w : Int64) : va_W := [(h0, .inr (13, moF a f w))]
abbrev pc_t_X12_told_4 (dC : Nat → ClassId) (dI : Nat → Nat → Nat) (sz : Nat) (cB cI cJ cZ : ClassId) (h0 : Nat) (a : Nat → Nat) (f : Nat → Int32) (w : Int64) : Array Value → State → Prop := va_Pc [.ref h0, .int 4] (fun U => U.heap.size = sz ∧ va_P (dC, dI) vwCl [(h0, .inr (13, moF a f w))] U.heap ∧ va_K (dC, dI) vwCl [(cB, .byte), (cI, .int), (cJ, .long), (cZ, .boolean)] U ∧ va_D (fun _ => True) [(h0, .inr (13, moF a f w))])
abbrev qc_t_X12_told_4 (dC : Nat → ClassId) (dI : Nat → Nat → Nat) (cB cI cJ cZ : ClassId) (h0 : Nat) (a : Nat → Nat) (f : Nat → Int32) (w : Int64) (A : Nat → Prop) : Array Value → State → Outcome → State → Prop := va_Qi (fun (r : Int32) (u : Unit) => match u with | _ => r = 0) (fun (u : Unit) t_ => match u with | _ => va_P (dC, dI) vwCl [(h0, .inr (13, moF a f w))] t_.heap ∧ va_K (dC, dI) vwCl [(cB, .byte), (cI, .int), (cJ, .long), (cZ, .boolean)] t_ ∧ va_D A [(h0, .inr (13, moF a f w))]) A
set_option maxHeartbeats 4000000 in
set_option maxRecDepth 100000 in
theorem t_X12_told_4 (l : Launch) (dC : Nat → ClassId) (dI : Nat → Nat → Nat) (sz : Nat) (cB cI cJ cZ : ClassId) (h0 : Nat) (a : Nat → Nat) (f : Nat → Int32) (w : Int64) (hhq : f 81 = 0) : Met l yX12_told (wsOf yX12_told cX12_told 7 (some .int)) ({ frames := 0, cells := 0, slots := 0, locals := 0 }) (pc_t_X12_told_4 dC dI sz cB cI cJ cZ h0 a f w) (qc_t_X12_told_4 dC dI cB cI cJ cZ h0 a f w (va_A (cs_t_X12_told_4 cB cI cJ cZ h0 a f w) sz)) 0 0 (va_A (cs_t_X12_told_4 cB cI cJ cZ h0 a f w) sz) := by
  refine Met.ofW (cc := cX12_told) (maxL := 7) (ret := (some .int)) (by decide) rfl ?_
  intro p e s m args below meth c s₁ B hml hv
  obtain ⟨rfl, hsz, hP, hK, hD0⟩ := hv
  have hx := B.exec
  have hb := B.bytes
  have hr := B.returns
  have hts := atoms_spec (ws := (wsOf yX12_told cX12_told 7 (some .int))) B.pre
  have hown : s.vm.findClass RX12 = some m.cls := findClass_of_methodNamed B.named
  have hlocks := B.notSynchronized
  subst hsz
  have hD := hD0.self (sz := s.heap.size)
  generalize hAe : va_A (cs_t_X12_told_4 cB cI cJ cZ h0 a f w) s.heap.size = A at hD ⊢
  have hA : ∀ q : Nat, s.heap.size ≤ q → A q := fun q h => by rw [← hAe]; exact Or.inr h
  have hS : va_S A s.heap s.heap [] := va_S.rf
  have hP : va_P (dC, dI) vwCl [(h0, .inr (13, moF a f w))] s.heap := hP
  have hl := lv_entry ([.ref h0, .int 4]) (n := 7) (Nat.le_of_ble_eq_true rfl)
  rw [lg_entry_eq]
  generalize (lg_sl ([.ref h0, .int 4]) ++ List.replicate (7 - (lg_sl ([.ref h0, .int 4])).length) Slot.unset).toArray = ls at hl ⊢
  have hl : lv_has ls 7 [(0, .ref h0), (1, .int 4)] := hl
  refine lv_iload_n hx hb dX12_told_0 rfl (lv_at hl 1 rfl) ?_
  refine lv_if_ne (tgt := 9) hx hb dX12_told_1 (by decide) (fun c_1 => ?_) (fun c_1 => ?_)
  · skip
    refine lv_iconst (v := 0) hx hb dX12_told_9 (by decide) ?_
    refine lv_istore_n (lv' := [(2, .int 0), (0, .ref h0), (1, .int 4)]) hx hb dX12_told_10 rfl hl (by decide) rfl (fun ls hl => ?_)
    refine lv_iload_n hx hb dX12_told_11 rfl (lv_at hl 2 rfl) ?_
    refine lv_iconst (v := 1) hx hb dX12_told_12 (by decide) ?_
    refine lv_icmp_ne (tgt := 49) hx hb dX12_told_13 (by decide) (fun c_2 => ?_) (fun c_2 => ?_)
    · skip
      refine lv_iload_n hx hb dX12_told_49 rfl (lv_at hl 2 rfl) ?_
      refine lv_iconst (v := 2) hx hb dX12_told_50 (by decide) ?_
      refine lv_icmp_ne (tgt := 164) hx hb dX12_told_51 (by decide) (fun c_3 => ?_) (fun c_3 => ?_)
      · skip
        refine lv_iload_n hx hb dX12_told_164 rfl (lv_at hl 2 rfl) ?_
        refine lv_iconst (v := 3) hx hb dX12_told_165 (by decide) ?_
        refine lv_icmp_ne (tgt := 187) hx hb dX12_told_166 (by decide) (fun c_4 => ?_) (fun c_4 => ?_)
        · skip
          refine lv_iload_n hx hb dX12_told_187 rfl (lv_at hl 2 rfl) ?_
          refine lv_iconst (v := 4) hx hb dX12_told_188 (by decide) ?_
          refine lv_icmp_ne (tgt := 210) hx hb dX12_told_189 (by decide) (fun c_5 => ?_) (fun c_5 => ?_)
          · skip
            exact absurd c_5 (by decide)
          · skip
            refine lv_aload_n hx hb dX12_told_192 rfl (lv_at hl 1 rfl) ?_
            refine va_get (D := (dC, dI)) (ci := 13) (v := .int (f 81)) (C := RX12) (T := TX12) (N := 115) hx hb hts (fun w h => List.mem_cons_of_mem _ (uG_X12 w h)) hown hK hP 0 rfl rfl 81 (by decide) (hts _ (List.mem_cons_of_mem _ kw_1772)) (fun _ h9 => h9) rfl dX12_told_193 ?_
            refine lv_if_eq (tgt := 206) hx hb dX12_told_196 (by decide) (fun c_6 => ?_) (fun c_6 => ?_)
            · skip
              refine lv_iconst (v := 0) hx hb dX12_told_206 (by decide) ?_
              refine lv_goto (tgt := 231) hx hb dX12_told_207 (by decide) ?_
              have hP9 := hP.sub (ws' := [(h0, .inr (13, moF a f w))]) [0] rfl
              have hD9 := hD.sub (ws' := [(h0, .inr (13, moF a f w))]) [0] (by decide) rfl
              have hK9 := hK.sub (tys' := [(cB, .byte), (cI, .int), (cJ, .long), (cZ, .boolean)]) [0, 1, 2, 3] rfl
              exact W.iret (v := 0) hx hb hr (fun t_ ht hW => ⟨⟨0, (), rfl, rfl, by rw [ht]; exact hP9, va_K.moved hW.alike hK9, hD9⟩, hS.F ht⟩) hS.2.2 dX12_told_231
            · skip
              exact absurd hhq c_6
        · skip
          exact absurd c_4 (by decide)
      · skip
        exact absurd c_3 (by decide)
    · skip
      exact absurd c_2 (by decide)
  · skip
    exact absurd c_1 (by decide)
abbrev cs_t_X12_told_5 (cB cI cJ cZ : ClassId) (h0 : Nat) (a : Nat → Nat) (f : Nat → Int32) (w : Int64) : va_W := [(h0, .inr (13, moF a f w))]
abbrev pc_t_X12_told_5 (dC : Nat → ClassId) (dI : Nat → Nat → Nat) (sz : Nat) (cB cI cJ cZ : ClassId) (h0 : Nat) (a : Nat → Nat) (f : Nat → Int32) (w : Int64) : Array Value → State → Prop := va_Pc [.ref h0, .int 5] (fun U => U.heap.size = sz ∧ va_P (dC, dI) vwCl [(h0, .inr (13, moF a f w))] U.heap ∧ va_K (dC, dI) vwCl [(cB, .byte), (cI, .int), (cJ, .long), (cZ, .boolean)] U ∧ va_D (fun _ => True) [(h0, .inr (13, moF a f w))])
abbrev qc_t_X12_told_5 (dC : Nat → ClassId) (dI : Nat → Nat → Nat) (cB cI cJ cZ : ClassId) (h0 : Nat) (a : Nat → Nat) (f : Nat → Int32) (w : Int64) (A : Nat → Prop) : Array Value → State → Outcome → State → Prop := va_Qi (fun (r : Int32) (u : Unit) => match u with | _ => r = 0) (fun (u : Unit) t_ => match u with | _ => va_P (dC, dI) vwCl [(h0, .inr (13, moF a f w))] t_.heap ∧ va_K (dC, dI) vwCl [(cB, .byte), (cI, .int), (cJ, .long), (cZ, .boolean)] t_ ∧ va_D A [(h0, .inr (13, moF a f w))]) A
set_option maxHeartbeats 4000000 in
set_option maxRecDepth 100000 in
theorem t_X12_told_5 (l : Launch) (dC : Nat → ClassId) (dI : Nat → Nat → Nat) (sz : Nat) (cB cI cJ cZ : ClassId) (h0 : Nat) (a : Nat → Nat) (f : Nat → Int32) (w : Int64) (hhq : f 81 = 0) : Met l yX12_told (wsOf yX12_told cX12_told 7 (some .int)) ({ frames := 0, cells := 0, slots := 0, locals := 0 }) (pc_t_X12_told_5 dC dI sz cB cI cJ cZ h0 a f w) (qc_t_X12_told_5 dC dI cB cI cJ cZ h0 a f w (va_A (cs_t_X12_told_5 cB cI cJ cZ h0 a f w) sz)) 0 0 (va_A (cs_t_X12_told_5 cB cI cJ cZ h0 a f w) sz) := by
  refine Met.ofW (cc := cX12_told) (maxL := 7) (ret := (some .int)) (by decide) rfl ?_
  intro p e s m args below meth c s₁ B hml hv
  obtain ⟨rfl, hsz, hP, hK, hD0⟩ := hv
  have hx := B.exec
  have hb := B.bytes
  have hr := B.returns
  have hts := atoms_spec (ws := (wsOf yX12_told cX12_told 7 (some .int))) B.pre
  have hown : s.vm.findClass RX12 = some m.cls := findClass_of_methodNamed B.named
  have hlocks := B.notSynchronized
  subst hsz
  have hD := hD0.self (sz := s.heap.size)
  generalize hAe : va_A (cs_t_X12_told_5 cB cI cJ cZ h0 a f w) s.heap.size = A at hD ⊢
  have hA : ∀ q : Nat, s.heap.size ≤ q → A q := fun q h => by rw [← hAe]; exact Or.inr h
  have hS : va_S A s.heap s.heap [] := va_S.rf
  have hP : va_P (dC, dI) vwCl [(h0, .inr (13, moF a f w))] s.heap := hP
  have hl := lv_entry ([.ref h0, .int 5]) (n := 7) (Nat.le_of_ble_eq_true rfl)
  rw [lg_entry_eq]
  generalize (lg_sl ([.ref h0, .int 5]) ++ List.replicate (7 - (lg_sl ([.ref h0, .int 5])).length) Slot.unset).toArray = ls at hl ⊢
  have hl : lv_has ls 7 [(0, .ref h0), (1, .int 5)] := hl
  refine lv_iload_n hx hb dX12_told_0 rfl (lv_at hl 1 rfl) ?_
  refine lv_if_ne (tgt := 9) hx hb dX12_told_1 (by decide) (fun c_1 => ?_) (fun c_1 => ?_)
  · skip
    refine lv_iconst (v := 0) hx hb dX12_told_9 (by decide) ?_
    refine lv_istore_n (lv' := [(2, .int 0), (0, .ref h0), (1, .int 5)]) hx hb dX12_told_10 rfl hl (by decide) rfl (fun ls hl => ?_)
    refine lv_iload_n hx hb dX12_told_11 rfl (lv_at hl 2 rfl) ?_
    refine lv_iconst (v := 1) hx hb dX12_told_12 (by decide) ?_
    refine lv_icmp_ne (tgt := 49) hx hb dX12_told_13 (by decide) (fun c_2 => ?_) (fun c_2 => ?_)
    · skip
      refine lv_iload_n hx hb dX12_told_49 rfl (lv_at hl 2 rfl) ?_
      refine lv_iconst (v := 2) hx hb dX12_told_50 (by decide) ?_
      refine lv_icmp_ne (tgt := 164) hx hb dX12_told_51 (by decide) (fun c_3 => ?_) (fun c_3 => ?_)
      · skip
        refine lv_iload_n hx hb dX12_told_164 rfl (lv_at hl 2 rfl) ?_
        refine lv_iconst (v := 3) hx hb dX12_told_165 (by decide) ?_
        refine lv_icmp_ne (tgt := 187) hx hb dX12_told_166 (by decide) (fun c_4 => ?_) (fun c_4 => ?_)
        · skip
          refine lv_iload_n hx hb dX12_told_187 rfl (lv_at hl 2 rfl) ?_
          refine lv_iconst (v := 4) hx hb dX12_told_188 (by decide) ?_
          refine lv_icmp_ne (tgt := 210) hx hb dX12_told_189 (by decide) (fun c_5 => ?_) (fun c_5 => ?_)
          · skip
            refine lv_iload_n hx hb dX12_told_210 rfl (lv_at hl 2 rfl) ?_
            refine lv_iconst (v := 5) hx hb dX12_told_211 (by decide) ?_
            refine lv_icmp_ne (tgt := 230) hx hb dX12_told_212 (by decide) (fun c_6 => ?_) (fun c_6 => ?_)
            · skip
              exact absurd c_6 (by decide)
            · skip
              refine lv_aload_n hx hb dX12_told_215 rfl (lv_at hl 1 rfl) ?_
              refine va_get (D := (dC, dI)) (ci := 13) (v := .int (f 81)) (C := RX12) (T := TX12) (N := 115) hx hb hts (fun w h => List.mem_cons_of_mem _ (uG_X12 w h)) hown hK hP 0 rfl rfl 81 (by decide) (hts _ (List.mem_cons_of_mem _ kw_1772)) (fun _ h9 => h9) rfl dX12_told_216 ?_
              refine lv_if_eq (tgt := 226) hx hb dX12_told_219 (by decide) (fun c_7 => ?_) (fun c_7 => ?_)
              · skip
                refine lv_iconst (v := 0) hx hb dX12_told_226 (by decide) ?_
                refine lv_goto (tgt := 231) hx hb dX12_told_227 (by decide) ?_
                have hP9 := hP.sub (ws' := [(h0, .inr (13, moF a f w))]) [0] rfl
                have hD9 := hD.sub (ws' := [(h0, .inr (13, moF a f w))]) [0] (by decide) rfl
                have hK9 := hK.sub (tys' := [(cB, .byte), (cI, .int), (cJ, .long), (cZ, .boolean)]) [0, 1, 2, 3] rfl
                exact W.iret (v := 0) hx hb hr (fun t_ ht hW => ⟨⟨0, (), rfl, rfl, by rw [ht]; exact hP9, va_K.moved hW.alike hK9, hD9⟩, hS.F ht⟩) hS.2.2 dX12_told_231
              · skip
                exact absurd hhq c_7
          · skip
            exact absurd c_5 (by decide)
        · skip
          exact absurd c_4 (by decide)
      · skip
        exact absurd c_3 (by decide)
    · skip
      exact absurd c_2 (by decide)
  · skip
    exact absurd c_1 (by decide)
abbrev cs_t_X12_told_o (cB cI cJ cZ : ClassId) (h0 : Nat) (a : Nat → Nat) (f : Nat → Int32) (w : Int64) (x : Int32) : va_W := [(h0, .inr (13, moF a f w))]
abbrev pc_t_X12_told_o (dC : Nat → ClassId) (dI : Nat → Nat → Nat) (sz : Nat) (cB cI cJ cZ : ClassId) (h0 : Nat) (a : Nat → Nat) (f : Nat → Int32) (w : Int64) (x : Int32) : Array Value → State → Prop := va_Pc [.ref h0, .int x] (fun U => U.heap.size = sz ∧ va_P (dC, dI) vwCl [(h0, .inr (13, moF a f w))] U.heap ∧ va_K (dC, dI) vwCl [(cB, .byte), (cI, .int), (cJ, .long), (cZ, .boolean)] U ∧ va_D (fun _ => True) [(h0, .inr (13, moF a f w))])
abbrev qc_t_X12_told_o (dC : Nat → ClassId) (dI : Nat → Nat → Nat) (cB cI cJ cZ : ClassId) (h0 : Nat) (a : Nat → Nat) (f : Nat → Int32) (w : Int64) (x : Int32) (A : Nat → Prop) : Array Value → State → Outcome → State → Prop := va_Qi (fun (r : Int32) (u : Unit) => match u with | _ => r = -1) (fun (u : Unit) t_ => match u with | _ => va_P (dC, dI) vwCl [(h0, .inr (13, moF a f w))] t_.heap ∧ va_K (dC, dI) vwCl [(cB, .byte), (cI, .int), (cJ, .long), (cZ, .boolean)] t_ ∧ va_D A [(h0, .inr (13, moF a f w))]) A
set_option maxHeartbeats 4000000 in
set_option maxRecDepth 100000 in
theorem t_X12_told_o (l : Launch) (dC : Nat → ClassId) (dI : Nat → Nat → Nat) (sz : Nat) (cB cI cJ cZ : ClassId) (h0 : Nat) (a : Nat → Nat) (f : Nat → Int32) (w : Int64) (x : Int32) (ho : x.toInt < 0 ∨ 5 < x.toInt) : Met l yX12_told (wsOf yX12_told cX12_told 7 (some .int)) ({ frames := 0, cells := 0, slots := 0, locals := 0 }) (pc_t_X12_told_o dC dI sz cB cI cJ cZ h0 a f w x) (qc_t_X12_told_o dC dI cB cI cJ cZ h0 a f w x (va_A (cs_t_X12_told_o cB cI cJ cZ h0 a f w x) sz)) 0 0 (va_A (cs_t_X12_told_o cB cI cJ cZ h0 a f w x) sz) := by
  refine Met.ofW (cc := cX12_told) (maxL := 7) (ret := (some .int)) (by decide) rfl ?_
  intro p e s m args below meth c s₁ B hml hv
  obtain ⟨rfl, hsz, hP, hK, hD0⟩ := hv
  have hx := B.exec
  have hb := B.bytes
  have hr := B.returns
  have hts := atoms_spec (ws := (wsOf yX12_told cX12_told 7 (some .int))) B.pre
  have hown : s.vm.findClass RX12 = some m.cls := findClass_of_methodNamed B.named
  have hlocks := B.notSynchronized
  subst hsz
  have hD := hD0.self (sz := s.heap.size)
  generalize hAe : va_A (cs_t_X12_told_o cB cI cJ cZ h0 a f w x) s.heap.size = A at hD ⊢
  have hA : ∀ q : Nat, s.heap.size ≤ q → A q := fun q h => by rw [← hAe]; exact Or.inr h
  have hS : va_S A s.heap s.heap [] := va_S.rf
  have hP : va_P (dC, dI) vwCl [(h0, .inr (13, moF a f w))] s.heap := hP
  have hl := lv_entry ([.ref h0, .int x]) (n := 7) (Nat.le_of_ble_eq_true rfl)
  rw [lg_entry_eq]
  generalize (lg_sl ([.ref h0, .int x]) ++ List.replicate (7 - (lg_sl ([.ref h0, .int x])).length) Slot.unset).toArray = ls at hl ⊢
  have hl : lv_has ls 7 [(0, .ref h0), (1, .int x)] := hl
  refine lv_iload_n hx hb dX12_told_0 rfl (lv_at hl 1 rfl) ?_
  refine lv_if_ne (tgt := 9) hx hb dX12_told_1 (by decide) (fun c_1 => ?_) (fun c_1 => ?_)
  · skip
    refine lv_iconst (v := 0) hx hb dX12_told_9 (by decide) ?_
    refine lv_istore_n (lv' := [(2, .int 0), (0, .ref h0), (1, .int x)]) hx hb dX12_told_10 rfl hl (by decide) rfl (fun ls hl => ?_)
    refine lv_iload_n hx hb dX12_told_11 rfl (lv_at hl 2 rfl) ?_
    refine lv_iconst (v := 1) hx hb dX12_told_12 (by decide) ?_
    refine lv_icmp_ne (tgt := 49) hx hb dX12_told_13 (by decide) (fun c_2 => ?_) (fun c_2 => ?_)
    · skip
      refine lv_iload_n hx hb dX12_told_49 rfl (lv_at hl 2 rfl) ?_
      refine lv_iconst (v := 2) hx hb dX12_told_50 (by decide) ?_
      refine lv_icmp_ne (tgt := 164) hx hb dX12_told_51 (by decide) (fun c_3 => ?_) (fun c_3 => ?_)
      · skip
        refine lv_iload_n hx hb dX12_told_164 rfl (lv_at hl 2 rfl) ?_
        refine lv_iconst (v := 3) hx hb dX12_told_165 (by decide) ?_
        refine lv_icmp_ne (tgt := 187) hx hb dX12_told_166 (by decide) (fun c_4 => ?_) (fun c_4 => ?_)
        · skip
          refine lv_iload_n hx hb dX12_told_187 rfl (lv_at hl 2 rfl) ?_
          refine lv_iconst (v := 4) hx hb dX12_told_188 (by decide) ?_
          refine lv_icmp_ne (tgt := 210) hx hb dX12_told_189 (by decide) (fun c_5 => ?_) (fun c_5 => ?_)
          · skip
            refine lv_iload_n hx hb dX12_told_210 rfl (lv_at hl 2 rfl) ?_
            refine lv_iconst (v := 5) hx hb dX12_told_211 (by decide) ?_
            refine lv_icmp_ne (tgt := 230) hx hb dX12_told_212 (by decide) (fun c_6 => ?_) (fun c_6 => ?_)
            · skip
              refine lv_iconst (v := (-1)) hx hb dX12_told_230 (by decide) ?_
              have hP9 := hP.sub (ws' := [(h0, .inr (13, moF a f w))]) [0] rfl
              have hD9 := hD.sub (ws' := [(h0, .inr (13, moF a f w))]) [0] (by decide) rfl
              have hK9 := hK.sub (tys' := [(cB, .byte), (cI, .int), (cJ, .long), (cZ, .boolean)]) [0, 1, 2, 3] rfl
              exact W.iret (v := (-1)) hx hb hr (fun t_ ht hW => ⟨⟨(-1), (), rfl, rfl, by rw [ht]; exact hP9, va_K.moved hW.alike hK9, hD9⟩, hS.F ht⟩) hS.2.2 dX12_told_231
            · skip
              exact absurd c_6 (fun h9 => by rw [h9] at ho; revert ho; decide)
          · skip
            exact absurd c_5 (fun h9 => by rw [h9] at ho; revert ho; decide)
        · skip
          exact absurd c_4 (fun h9 => by rw [h9] at ho; revert ho; decide)
      · skip
        exact absurd c_3 (fun h9 => by rw [h9] at ho; revert ho; decide)
    · skip
      exact absurd c_2 (fun h9 => by rw [h9] at ho; revert ho; decide)
  · skip
    exact absurd c_1 (fun h9 => by rw [h9] at ho; revert ho; decide)
abbrev cs_t_X12_told_1 (cB cI cJ cZ : ClassId) (h0 : Nat) (a : Nat → Nat) (f : Nat → Int32) (w : Int64) (rt : Nat → Int32) : va_W := [(h0, .inr (13, moF a f w)), (a 6, .inl (cZ, 48, .inl rt))]
abbrev pc_t_X12_told_1 (dC : Nat → ClassId) (dI : Nat → Nat → Nat) (sz : Nat) (cB cI cJ cZ : ClassId) (h0 : Nat) (a : Nat → Nat) (f : Nat → Int32) (w : Int64) (rt : Nat → Int32) : Array Value → State → Prop := va_Pc [.ref h0, .int 1] (fun U => U.heap.size = sz ∧ va_P (dC, dI) vwCl [(h0, .inr (13, moF a f w)), (a 6, .inl (cZ, 48, .inl rt))] U.heap ∧ va_K (dC, dI) vwCl [(cB, .byte), (cI, .int), (cJ, .long), (cZ, .boolean)] U ∧ va_D (fun _ => True) [(h0, .inr (13, moF a f w)), (a 6, .inl (cZ, 48, .inl rt))])
abbrev qc_t_X12_told_1 (dC : Nat → ClassId) (dI : Nat → Nat → Nat) (cB cI cJ cZ : ClassId) (h0 : Nat) (a : Nat → Nat) (f : Nat → Int32) (w : Int64) (rt : Nat → Int32) (A : Nat → Prop) : Array Value → State → Outcome → State → Prop := va_Qi (fun (r : Int32) (u : Unit) => match u with | _ => r = sumI (fun j => hvI (rt j)) 48) (fun (u : Unit) t_ => match u with | _ => va_P (dC, dI) vwCl [(h0, .inr (13, moF a f w)), (a 6, .inl (cZ, 48, .inl rt))] t_.heap ∧ va_K (dC, dI) vwCl [(cB, .byte), (cI, .int), (cJ, .long), (cZ, .boolean)] t_ ∧ va_D A [(h0, .inr (13, moF a f w)), (a 6, .inl (cZ, 48, .inl rt))]) A
set_option maxHeartbeats 4000000 in
set_option maxRecDepth 100000 in
theorem t_X12_told_1 (l : Launch) (dC : Nat → ClassId) (dI : Nat → Nat → Nat) (sz : Nat) (cB cI cJ cZ : ClassId) (h0 : Nat) (a : Nat → Nat) (f : Nat → Int32) (w : Int64) (rt : Nat → Int32)  : Met l yX12_told (wsOf yX12_told cX12_told 7 (some .int)) ({ frames := 0, cells := 0, slots := 0, locals := 0 }) (pc_t_X12_told_1 dC dI sz cB cI cJ cZ h0 a f w rt) (qc_t_X12_told_1 dC dI cB cI cJ cZ h0 a f w rt (va_A (cs_t_X12_told_1 cB cI cJ cZ h0 a f w rt) sz)) 0 0 (va_A (cs_t_X12_told_1 cB cI cJ cZ h0 a f w rt) sz) := by
  refine Met.ofW (cc := cX12_told) (maxL := 7) (ret := (some .int)) (by decide) rfl ?_
  intro p e s m args below meth c s₁ B hml hv
  obtain ⟨rfl, hsz, hP, hK, hD0⟩ := hv
  have hx := B.exec
  have hb := B.bytes
  have hr := B.returns
  have hts := atoms_spec (ws := (wsOf yX12_told cX12_told 7 (some .int))) B.pre
  have hown : s.vm.findClass RX12 = some m.cls := findClass_of_methodNamed B.named
  have hlocks := B.notSynchronized
  subst hsz
  have hD := hD0.self (sz := s.heap.size)
  generalize hAe : va_A (cs_t_X12_told_1 cB cI cJ cZ h0 a f w rt) s.heap.size = A at hD ⊢
  have hA : ∀ q : Nat, s.heap.size ≤ q → A q := fun q h => by rw [← hAe]; exact Or.inr h
  have hS : va_S A s.heap s.heap [] := va_S.rf
  have hP : va_P (dC, dI) vwCl [(h0, .inr (13, moF a f w)), (a 6, .inl (cZ, 48, .inl rt))] s.heap := hP
  have hl := lv_entry ([.ref h0, .int 1]) (n := 7) (Nat.le_of_ble_eq_true rfl)
  rw [lg_entry_eq]
  generalize (lg_sl ([.ref h0, .int 1]) ++ List.replicate (7 - (lg_sl ([.ref h0, .int 1])).length) Slot.unset).toArray = ls at hl ⊢
  have hl : lv_has ls 7 [(0, .ref h0), (1, .int 1)] := hl
  refine lv_iload_n hx hb dX12_told_0 rfl (lv_at hl 1 rfl) ?_
  refine lv_if_ne (tgt := 9) hx hb dX12_told_1 (by decide) (fun c_1 => ?_) (fun c_1 => ?_)
  · skip
    refine lv_iconst (v := 0) hx hb dX12_told_9 (by decide) ?_
    refine lv_istore_n (lv' := [(2, .int 0), (0, .ref h0), (1, .int 1)]) hx hb dX12_told_10 rfl hl (by decide) rfl (fun ls hl => ?_)
    refine lv_iload_n hx hb dX12_told_11 rfl (lv_at hl 2 rfl) ?_
    refine lv_iconst (v := 1) hx hb dX12_told_12 (by decide) ?_
    refine lv_icmp_ne (tgt := 49) hx hb dX12_told_13 (by decide) (fun c_2 => ?_) (fun c_2 => ?_)
    · skip
      exact absurd c_2 (by decide)
    · skip
      refine lv_iconst (v := 0) hx hb dX12_told_16 (by decide) ?_
      refine lv_istore_n (lv' := [(3, .int 0), (2, .int 0), (0, .ref h0), (1, .int 1)]) hx hb dX12_told_17 rfl hl (by decide) rfl (fun ls hl => ?_)
      have lp_18 : ∀ (n_ : Nat) (j : Nat) (xs : Int32), j ≤ 48 → xs = sumI (fun j => hvI (rt j)) j → 48 - j < n_ → ∀ (H : Heap) (locs : List Loc) (ls : Array Slot), va_P (dC, dI) vwCl [(h0, .inr (13, moF a f w)), (a 6, .inl (cZ, 48, .inl rt))] H → va_D A [(h0, .inr (13, moF a f w)), (a 6, .inl (cZ, 48, .inl rt))] → va_S A s.heap H locs → lv_has ls 7 [(3, .int (nI j)), (2, .int xs), (0, .ref h0), (1, .int 1)] → W p l e (headSpec (wsOf yX12_told cX12_told 7 (some .int)) ({ frames := 0, cells := 0, slots := 0, locals := 0 })).room s m ([.ref h0, .int 1] : List Value).toArray below meth c H locs 0 0 (MQ below (qc_t_X12_told_1 dC dI cB cI cJ cZ h0 a f w rt A) ([.ref h0, .int 1] : List Value).toArray s 0 0 A) (F0 m 18 ls []) := by
        intro n_
        induction n_ with
        | zero => intro j xs hj hxs hm; exact absurd hm (Nat.not_lt_zero _)
        | succ n_ ih_18 =>
          intro j xs hj hxs hm H locs ls hP hD hS hl
          refine lv_iload_n hx hb dX12_told_18 rfl (lv_at hl 0 rfl) ?_
          refine lv_bipush (v := 48) hx hb dX12_told_19 (by decide) ?_
          refine lv_icmp_ge (tgt := 47) hx hb dX12_told_21 (by decide) (fun c_3 => ?_) (fun c_3 => ?_)
          · skip
            have c_3 : 48 ≤ j := (nI_leI (a := 48) (b := j) (by omega) (by omega)).mp c_3
            refine lv_iload_n hx hb dX12_told_47 rfl (lv_at hl 1 rfl) ?_
            have hP9 := hP.sub (ws' := [(h0, .inr (13, moF a f w)), (a 6, .inl (cZ, 48, .inl rt))]) [0, 1] rfl
            have hD9 := hD.sub (ws' := [(h0, .inr (13, moF a f w)), (a 6, .inl (cZ, 48, .inl rt))]) [0, 1] (by decide) rfl
            have hK9 := hK.sub (tys' := [(cB, .byte), (cI, .int), (cJ, .long), (cZ, .boolean)]) [0, 1, 2, 3] rfl
            exact W.iret (v := xs) hx hb hr (fun t_ ht hW => ⟨⟨xs, (), rfl, by rw [hxs]; rw [show j = 48 by omega], by rw [ht]; exact hP9, va_K.moved hW.alike hK9, hD9⟩, hS.F ht⟩) hS.2.2 dX12_told_48
          · skip
            have c_3 : ¬ (48 ≤ j) := fun h => c_3 ((nI_leI (a := 48) (b := j) (by omega) (by omega)).mpr h)
            refine lv_iload_n hx hb dX12_told_24 rfl (lv_at hl 1 rfl) ?_
            have mg_4 : ∀ (H : Heap) (locs : List Loc), va_P (dC, dI) vwCl [(h0, .inr (13, moF a f w)), (a 6, .inl (cZ, 48, .inl rt))] H → va_D A [(h0, .inr (13, moF a f w)), (a 6, .inl (cZ, 48, .inl rt))] → va_S A s.heap H locs → W p l e (headSpec (wsOf yX12_told cX12_told 7 (some .int)) ({ frames := 0, cells := 0, slots := 0, locals := 0 })).room s m ([.ref h0, .int 1] : List Value).toArray below meth c H locs 0 0 (MQ below (qc_t_X12_told_1 dC dI cB cI cJ cZ h0 a f w rt A) ([.ref h0, .int 1] : List Value).toArray s 0 0 A) (F0 m 39 ls [.int (hvI (rt j)), .int xs]) := by
              intro H locs hP hD hS
              refine lv_iadd hx hb dX12_told_39 ?_
              refine lv_istore_n (lv' := [(2, .int (xs + (hvI (rt j)))), (3, .int (nI j)), (0, .ref h0), (1, .int 1)]) hx hb dX12_told_40 rfl hl (by decide) rfl (fun ls hl => ?_)
              refine lv_iinc (v := nI (j + 1)) (lv' := [(3, .int (nI (j + 1))), (2, .int (xs + (hvI (rt j)))), (0, .ref h0), (1, .int 1)]) hx hb dX12_told_41 hl (k := 1) rfl (nI_add j 1) (by decide) rfl (fun ls hl => ?_)
              refine lv_goto (tgt := 18) hx hb dX12_told_44 (by decide) ?_
              exact ih_18 (j + 1) (xs + hvI (rt j)) (by omega) (by rw [hxs]; rfl) (by omega) _ _ _ (hP.sub [0, 1] rfl) (hD.sub [0, 1] (by decide) rfl) hS (lv_sub hl [0, 1, 2, 3] rfl)
            refine lv_aload_n hx hb dX12_told_25 rfl (lv_at hl 2 rfl) ?_
            refine va_get (D := (dC, dI)) (ci := 13) (v := .ref (a 6)) (C := RX12) (T := TX12) (N := 115) hx hb hts (fun w h => List.mem_cons_of_mem _ (uG_X12 w h)) hown hK hP 0 rfl rfl 6 (by decide) (hts _ (List.mem_cons_of_mem _ kw_1697)) (fun _ h9 => h9) rfl dX12_told_26 ?_
            refine lv_iload_n hx hb dX12_told_29 rfl (lv_at hl 0 rfl) ?_
            refine va_zald hx hb hK hP 1 3 rfl rfl (i := (nI j)) (vp_in_nI (n := j) (N := 48) (by omega) (by omega)) dX12_told_30 ?_
            refine lv_topi (fun x_5 ex_5 => ?_)
            have ex_5 : x_5 = rt j := ex_5.trans (congrArg rt (nI_clamp (n := j) (by omega)))
            subst ex_5
            refine lv_if_eq (tgt := 38) hx hb dX12_told_31 (by decide) (fun c_6 => ?_) (fun c_6 => ?_)
            · skip
              refine lv_iconst (v := 0) hx hb dX12_told_38 (by decide) ?_
              exact W.eq (by unfold hvI; rw [if_pos c_6]) (mg_4 _ _ hP hD hS)
            · skip
              refine lv_iconst (v := 1) hx hb dX12_told_34 (by decide) ?_
              refine lv_goto (tgt := 39) hx hb dX12_told_35 (by decide) ?_
              exact W.eq (by unfold hvI; rw [if_neg c_6]) (mg_4 _ _ hP hD hS)
      exact lp_18 _ 0 0 (Nat.zero_le _) rfl (Nat.lt_succ_self _) _ _ _ (hP.sub [0, 1] rfl) (hD.sub [0, 1] (by decide) rfl) hS (lv_sub hl [0, 1, 2, 3] rfl)
  · skip
    exact absurd c_1 (by decide)
theorem dX12_back_0 : decode cX12_back 0 = .ok (.aload_n 0, 1) := by decide +kernel
theorem dX12_back_1 : decode cX12_back 1 = .ok (.iconst 0, 1) := by decide +kernel
theorem dX12_back_2 : decode cX12_back 2 = .ok (.putfield 271, 3) := by decide +kernel
theorem dX12_back_5 : decode cX12_back 5 = .ok (.iload_n 1, 1) := by decide +kernel
theorem dX12_back_6 : decode cX12_back 6 = .ok (.ifCond .lt 35, 3) := by decide +kernel
theorem dX12_back_9 : decode cX12_back 9 = .ok (.iload_n 1, 1) := by decide +kernel
theorem dX12_back_10 : decode cX12_back 10 = .ok (.aload_n 0, 1) := by decide +kernel
theorem dX12_back_11 : decode cX12_back 11 = .ok (.getfield 261, 3) := by decide +kernel
theorem dX12_back_14 : decode cX12_back 14 = .ok (.if_icmp .ge 27, 3) := by decide +kernel
theorem dX12_back_17 : decode cX12_back 17 = .ok (.iload_n 2, 1) := by decide +kernel
theorem dX12_back_18 : decode cX12_back 18 = .ok (.ifCond .lt 23, 3) := by decide +kernel
theorem dX12_back_21 : decode cX12_back 21 = .ok (.iload_n 2, 1) := by decide +kernel
theorem dX12_back_22 : decode cX12_back 22 = .ok (.bipush 7, 2) := by decide +kernel
theorem dX12_back_24 : decode cX12_back 24 = .ok (.if_icmp .gt 17, 3) := by decide +kernel
theorem dX12_back_27 : decode cX12_back 27 = .ok (.aload_n 0, 1) := by decide +kernel
theorem dX12_back_28 : decode cX12_back 28 = .ok (.getfield 20, 3) := by decide +kernel
theorem dX12_back_31 : decode cX12_back 31 = .ok (.bipush 8, 2) := by decide +kernel
theorem dX12_back_33 : decode cX12_back 33 = .ok (.iload_n 1, 1) := by decide +kernel
theorem dX12_back_34 : decode cX12_back 34 = .ok (.imul, 1) := by decide +kernel
theorem dX12_back_35 : decode cX12_back 35 = .ok (.iload_n 2, 1) := by decide +kernel
theorem dX12_back_36 : decode cX12_back 36 = .ok (.iadd, 1) := by decide +kernel
theorem dX12_back_37 : decode cX12_back 37 = .ok (.baload, 1) := by decide +kernel
theorem dX12_back_38 : decode cX12_back 38 = .ok (.ifCond .ne 5, 3) := by decide +kernel
theorem dX12_back_41 : decode cX12_back 41 = .ok (.iconst 0, 1) := by decide +kernel
theorem dX12_back_42 : decode cX12_back 42 = .ok (.ireturn, 1) := by decide +kernel
theorem dX12_back_43 : decode cX12_back 43 = .ok (.aload_n 0, 1) := by decide +kernel
theorem dX12_back_44 : decode cX12_back 44 = .ok (.getfield 20, 3) := by decide +kernel
theorem dX12_back_47 : decode cX12_back 47 = .ok (.bipush 8, 2) := by decide +kernel
theorem dX12_back_49 : decode cX12_back 49 = .ok (.iload_n 1, 1) := by decide +kernel
theorem dX12_back_50 : decode cX12_back 50 = .ok (.imul, 1) := by decide +kernel
theorem dX12_back_51 : decode cX12_back 51 = .ok (.iload_n 2, 1) := by decide +kernel
theorem dX12_back_52 : decode cX12_back 52 = .ok (.iadd, 1) := by decide +kernel
theorem dX12_back_53 : decode cX12_back 53 = .ok (.iconst 0, 1) := by decide +kernel
theorem dX12_back_54 : decode cX12_back 54 = .ok (.bastore, 1) := by decide +kernel
theorem dX12_back_55 : decode cX12_back 55 = .ok (.aload_n 0, 1) := by decide +kernel
theorem dX12_back_56 : decode cX12_back 56 = .ok (.iconst 1, 1) := by decide +kernel
theorem dX12_back_57 : decode cX12_back 57 = .ok (.invokevirtual 274, 3) := by decide +kernel
theorem dX12_back_60 : decode cX12_back 60 = .ok (.iconst 1, 1) := by decide +kernel
theorem dX12_back_61 : decode cX12_back 61 = .ok (.ireturn, 1) := by decide +kernel
abbrev cs_t_X12_back_oi (cB cI cJ cZ : ClassId) (h0 : Nat) (a : Nat → Nat) (f : Nat → Int32) (w : Int64) (k : Nat) (rt : Nat → Int32) (x y : Int32) : va_W := [(h0, .inr (13, moF a (upd f 4 (nI k)) w)), (a 6, .inl (cZ, 48, .inl rt))]
abbrev pc_t_X12_back_oi (dC : Nat → ClassId) (dI : Nat → Nat → Nat) (sz : Nat) (cB cI cJ cZ : ClassId) (h0 : Nat) (a : Nat → Nat) (f : Nat → Int32) (w : Int64) (k : Nat) (rt : Nat → Int32) (x y : Int32) : Array Value → State → Prop := va_Pc [.ref h0, .int x, .int y] (fun U => U.heap.size = sz ∧ va_P (dC, dI) vwCl [(h0, .inr (13, moF a (upd f 4 (nI k)) w)), (a 6, .inl (cZ, 48, .inl rt))] U.heap ∧ va_K (dC, dI) vwCl [(cB, .byte), (cI, .int), (cJ, .long), (cZ, .boolean)] U ∧ va_D (fun _ => True) [(h0, .inr (13, moF a (upd f 4 (nI k)) w)), (a 6, .inl (cZ, 48, .inl rt))])
abbrev qc_t_X12_back_oi (dC : Nat → ClassId) (dI : Nat → Nat → Nat) (cB cI cJ cZ : ClassId) (h0 : Nat) (a : Nat → Nat) (f : Nat → Int32) (w : Int64) (k : Nat) (rt : Nat → Int32) (x y : Int32) (A : Nat → Prop) : Array Value → State → Outcome → State → Prop := va_Qi (fun (r : Int32) (u : Unit) => match u with | _ => r = 0) (fun (u : Unit) t_ => match u with | _ => va_P (dC, dI) vwCl [(h0, .inr (13, moF a (upd (upd f 4 (nI k)) 110 0) w)), (a 6, .inl (cZ, 48, .inl rt))] t_.heap ∧ va_K (dC, dI) vwCl [(cB, .byte), (cI, .int), (cJ, .long), (cZ, .boolean)] t_ ∧ va_D A [(h0, .inr (13, moF a (upd (upd f 4 (nI k)) 110 0) w)), (a 6, .inl (cZ, 48, .inl rt))]) A
set_option maxHeartbeats 4000000 in
set_option maxRecDepth 100000 in
theorem t_X12_back_oi (l : Launch) (dC : Nat → ClassId) (dI : Nat → Nat → Nat) (sz : Nat) (cB cI cJ cZ : ClassId) (h0 : Nat) (a : Nat → Nat) (f : Nat → Int32) (w : Int64) (k : Nat) (rt : Nat → Int32) (x y : Int32) (hk : k ≤ 6) (ho : x < 0 ∨ nI k ≤ x) : Met l yX12_back (wsOf yX12_back cX12_back 3 (some .boolean)) ({ frames := 1, cells := 0, slots := 0, locals := 60 }) (pc_t_X12_back_oi dC dI sz cB cI cJ cZ h0 a f w k rt x y) (qc_t_X12_back_oi dC dI cB cI cJ cZ h0 a f w k rt x y (va_A (cs_t_X12_back_oi cB cI cJ cZ h0 a f w k rt x y) sz)) 0 0 (va_A (cs_t_X12_back_oi cB cI cJ cZ h0 a f w k rt x y) sz) := by
  refine Met.ofW (cc := cX12_back) (maxL := 3) (ret := (some .boolean)) (by decide) rfl ?_
  intro p e s m args below meth c s₁ B hml hv
  obtain ⟨rfl, hsz, hP, hK, hD0⟩ := hv
  have hx := B.exec
  have hb := B.bytes
  have hr := B.returns
  have hts := atoms_spec (ws := (wsOf yX12_back cX12_back 3 (some .boolean))) B.pre
  have hown : s.vm.findClass RX12 = some m.cls := findClass_of_methodNamed B.named
  have hlocks := B.notSynchronized
  subst hsz
  have hD := hD0.self (sz := s.heap.size)
  generalize hAe : va_A (cs_t_X12_back_oi cB cI cJ cZ h0 a f w k rt x y) s.heap.size = A at hD ⊢
  have hA : ∀ q : Nat, s.heap.size ≤ q → A q := fun q h => by rw [← hAe]; exact Or.inr h
  have hS : va_S A s.heap s.heap [] := va_S.rf
  have hP : va_P (dC, dI) vwCl [(h0, .inr (13, moF a (upd f 4 (nI k)) w)), (a 6, .inl (cZ, 48, .inl rt))] s.heap := hP
  have hl := lv_entry ([.ref h0, .int x, .int y]) (n := 3) (Nat.le_of_ble_eq_true rfl)
  rw [lg_entry_eq]
  generalize (lg_sl ([.ref h0, .int x, .int y]) ++ List.replicate (3 - (lg_sl ([.ref h0, .int x, .int y])).length) Slot.unset).toArray = ls at hl ⊢
  have hl : lv_has ls 3 [(0, .ref h0), (1, .int x), (2, .int y)] := hl
  refine lv_aload_n hx hb dX12_back_0 rfl (lv_at hl 0 rfl) ?_
  refine lv_iconst (v := 0) hx hb dX12_back_1 (by decide) ?_
  refine va_put (D := (dC, dI)) (ci := 13) (v := .int 0) (ty := .int) (C := RX12) (T := TX12) (N := 115) hx hb hts (fun w h => List.mem_cons_of_mem _ (uG_X12 w h)) tyX12 tyX12_ok nmX12 hown hK hP hD hS 0 rfl rfl 110 (by decide) (hts _ (List.mem_cons_of_mem _ kw_1801)) (fun _ h9 => h9) rfl (by decide +kernel) rfl rfl (Nat.le_of_ble_eq_true rfl) dX12_back_2 (fun H locs hP hD hS => ?_)
  have hP : va_P (dC, dI) vwCl [(h0, .inr (13, moF a (upd (upd f 4 (nI k)) 110 0) w)), (a 6, .inl (cZ, 48, .inl rt))] H := hP
  have hD : va_D A [(h0, .inr (13, moF a (upd (upd f 4 (nI k)) 110 0) w)), (a 6, .inl (cZ, 48, .inl rt))] := hD
  refine lv_iload_n hx hb dX12_back_5 rfl (lv_at hl 1 rfl) ?_
  refine lv_if_lt (tgt := 41) hx hb dX12_back_6 (by decide) (fun c_1 => ?_) (fun c_1 => ?_)
  · skip
    refine lv_iconst (v := 0) hx hb dX12_back_41 (by decide) ?_
    have hP9 := hP.sub (ws' := [(h0, .inr (13, moF a (upd (upd f 4 (nI k)) 110 0) w)), (a 6, .inl (cZ, 48, .inl rt))]) [0, 1] rfl
    have hD9 := hD.sub (ws' := [(h0, .inr (13, moF a (upd (upd f 4 (nI k)) 110 0) w)), (a 6, .inl (cZ, 48, .inl rt))]) [0, 1] (by decide) rfl
    have hK9 := hK.sub (tys' := [(cB, .byte), (cI, .int), (cJ, .long), (cZ, .boolean)]) [0, 1, 2, 3] rfl
    exact W.zret (v := 0) hx hb hr (by rfl) (fun t_ ht hW => ⟨⟨0, (), rfl, rfl, by rw [ht]; exact hP9, va_K.moved hW.alike hK9, hD9⟩, hS.F ht⟩) hS.2.2 dX12_back_42
  · skip
    refine lv_iload_n hx hb dX12_back_9 rfl (lv_at hl 1 rfl) ?_
    refine lv_aload_n hx hb dX12_back_10 rfl (lv_at hl 0 rfl) ?_
    refine va_get (D := (dC, dI)) (ci := 13) (v := .int (nI k)) (C := RX12) (T := TX12) (N := 115) hx hb hts (fun w h => List.mem_cons_of_mem _ (uG_X12 w h)) hown hK hP 0 rfl rfl 4 (by decide) (hts _ (List.mem_cons_of_mem _ kw_1695)) (fun _ h9 => h9) rfl dX12_back_11 ?_
    refine lv_icmp_ge (tgt := 41) hx hb dX12_back_14 (by decide) (fun c_2 => ?_) (fun c_2 => ?_)
    · skip
      refine lv_iconst (v := 0) hx hb dX12_back_41 (by decide) ?_
      have hP9 := hP.sub (ws' := [(h0, .inr (13, moF a (upd (upd f 4 (nI k)) 110 0) w)), (a 6, .inl (cZ, 48, .inl rt))]) [0, 1] rfl
      have hD9 := hD.sub (ws' := [(h0, .inr (13, moF a (upd (upd f 4 (nI k)) 110 0) w)), (a 6, .inl (cZ, 48, .inl rt))]) [0, 1] (by decide) rfl
      have hK9 := hK.sub (tys' := [(cB, .byte), (cI, .int), (cJ, .long), (cZ, .boolean)]) [0, 1, 2, 3] rfl
      exact W.zret (v := 0) hx hb hr (by rfl) (fun t_ ht hW => ⟨⟨0, (), rfl, rfl, by rw [ht]; exact hP9, va_K.moved hW.alike hK9, hD9⟩, hS.F ht⟩) hS.2.2 dX12_back_42
    · skip
      exact absurd ho (not_or.mpr ⟨c_1, c_2⟩)
abbrev cs_t_X12_back_oj (cB cI cJ cZ : ClassId) (h0 : Nat) (a : Nat → Nat) (f : Nat → Int32) (w : Int64) (k : Nat) (rt : Nat → Int32) (i : Nat) (y : Int32) : va_W := [(h0, .inr (13, moF a (upd f 4 (nI k)) w)), (a 6, .inl (cZ, 48, .inl rt))]
abbrev pc_t_X12_back_oj (dC : Nat → ClassId) (dI : Nat → Nat → Nat) (sz : Nat) (cB cI cJ cZ : ClassId) (h0 : Nat) (a : Nat → Nat) (f : Nat → Int32) (w : Int64) (k : Nat) (rt : Nat → Int32) (i : Nat) (y : Int32) : Array Value → State → Prop := va_Pc [.ref h0, .int (nI i), .int y] (fun U => U.heap.size = sz ∧ va_P (dC, dI) vwCl [(h0, .inr (13, moF a (upd f 4 (nI k)) w)), (a 6, .inl (cZ, 48, .inl rt))] U.heap ∧ va_K (dC, dI) vwCl [(cB, .byte), (cI, .int), (cJ, .long), (cZ, .boolean)] U ∧ va_D (fun _ => True) [(h0, .inr (13, moF a (upd f 4 (nI k)) w)), (a 6, .inl (cZ, 48, .inl rt))])
abbrev qc_t_X12_back_oj (dC : Nat → ClassId) (dI : Nat → Nat → Nat) (cB cI cJ cZ : ClassId) (h0 : Nat) (a : Nat → Nat) (f : Nat → Int32) (w : Int64) (k : Nat) (rt : Nat → Int32) (i : Nat) (y : Int32) (A : Nat → Prop) : Array Value → State → Outcome → State → Prop := va_Qi (fun (r : Int32) (u : Unit) => match u with | _ => r = 0) (fun (u : Unit) t_ => match u with | _ => va_P (dC, dI) vwCl [(h0, .inr (13, moF a (upd (upd f 4 (nI k)) 110 0) w)), (a 6, .inl (cZ, 48, .inl rt))] t_.heap ∧ va_K (dC, dI) vwCl [(cB, .byte), (cI, .int), (cJ, .long), (cZ, .boolean)] t_ ∧ va_D A [(h0, .inr (13, moF a (upd (upd f 4 (nI k)) 110 0) w)), (a 6, .inl (cZ, 48, .inl rt))]) A
set_option maxHeartbeats 4000000 in
set_option maxRecDepth 100000 in
theorem t_X12_back_oj (l : Launch) (dC : Nat → ClassId) (dI : Nat → Nat → Nat) (sz : Nat) (cB cI cJ cZ : ClassId) (h0 : Nat) (a : Nat → Nat) (f : Nat → Int32) (w : Int64) (k : Nat) (rt : Nat → Int32) (i : Nat) (y : Int32) (hk : k ≤ 6) (hi : i < k) (ho : y < 0 ∨ 7 < y) : Met l yX12_back (wsOf yX12_back cX12_back 3 (some .boolean)) ({ frames := 1, cells := 0, slots := 0, locals := 60 }) (pc_t_X12_back_oj dC dI sz cB cI cJ cZ h0 a f w k rt i y) (qc_t_X12_back_oj dC dI cB cI cJ cZ h0 a f w k rt i y (va_A (cs_t_X12_back_oj cB cI cJ cZ h0 a f w k rt i y) sz)) 0 0 (va_A (cs_t_X12_back_oj cB cI cJ cZ h0 a f w k rt i y) sz) := by
  refine Met.ofW (cc := cX12_back) (maxL := 3) (ret := (some .boolean)) (by decide) rfl ?_
  intro p e s m args below meth c s₁ B hml hv
  obtain ⟨rfl, hsz, hP, hK, hD0⟩ := hv
  have hx := B.exec
  have hb := B.bytes
  have hr := B.returns
  have hts := atoms_spec (ws := (wsOf yX12_back cX12_back 3 (some .boolean))) B.pre
  have hown : s.vm.findClass RX12 = some m.cls := findClass_of_methodNamed B.named
  have hlocks := B.notSynchronized
  subst hsz
  have hD := hD0.self (sz := s.heap.size)
  generalize hAe : va_A (cs_t_X12_back_oj cB cI cJ cZ h0 a f w k rt i y) s.heap.size = A at hD ⊢
  have hA : ∀ q : Nat, s.heap.size ≤ q → A q := fun q h => by rw [← hAe]; exact Or.inr h
  have hS : va_S A s.heap s.heap [] := va_S.rf
  have hP : va_P (dC, dI) vwCl [(h0, .inr (13, moF a (upd f 4 (nI k)) w)), (a 6, .inl (cZ, 48, .inl rt))] s.heap := hP
  have hl := lv_entry ([.ref h0, .int (nI i), .int y]) (n := 3) (Nat.le_of_ble_eq_true rfl)
  rw [lg_entry_eq]
  generalize (lg_sl ([.ref h0, .int (nI i), .int y]) ++ List.replicate (3 - (lg_sl ([.ref h0, .int (nI i), .int y])).length) Slot.unset).toArray = ls at hl ⊢
  have hl : lv_has ls 3 [(0, .ref h0), (1, .int (nI i)), (2, .int y)] := hl
  refine lv_aload_n hx hb dX12_back_0 rfl (lv_at hl 0 rfl) ?_
  refine lv_iconst (v := 0) hx hb dX12_back_1 (by decide) ?_
  refine va_put (D := (dC, dI)) (ci := 13) (v := .int 0) (ty := .int) (C := RX12) (T := TX12) (N := 115) hx hb hts (fun w h => List.mem_cons_of_mem _ (uG_X12 w h)) tyX12 tyX12_ok nmX12 hown hK hP hD hS 0 rfl rfl 110 (by decide) (hts _ (List.mem_cons_of_mem _ kw_1801)) (fun _ h9 => h9) rfl (by decide +kernel) rfl rfl (Nat.le_of_ble_eq_true rfl) dX12_back_2 (fun H locs hP hD hS => ?_)
  have hP : va_P (dC, dI) vwCl [(h0, .inr (13, moF a (upd (upd f 4 (nI k)) 110 0) w)), (a 6, .inl (cZ, 48, .inl rt))] H := hP
  have hD : va_D A [(h0, .inr (13, moF a (upd (upd f 4 (nI k)) 110 0) w)), (a 6, .inl (cZ, 48, .inl rt))] := hD
  refine lv_iload_n hx hb dX12_back_5 rfl (lv_at hl 1 rfl) ?_
  refine lv_if_lt (tgt := 41) hx hb dX12_back_6 (by decide) (fun c_1 => ?_) (fun c_1 => ?_)
  · skip
    have c_1 : i < 0 := (nI_ltI (a := i) (b := 0) (by omega) (by omega)).mp c_1
    exact absurd c_1 (by omega)
  · skip
    have c_1 : ¬ (i < 0) := fun h => c_1 ((nI_ltI (a := i) (b := 0) (by omega) (by omega)).mpr h)
    refine lv_iload_n hx hb dX12_back_9 rfl (lv_at hl 1 rfl) ?_
    refine lv_aload_n hx hb dX12_back_10 rfl (lv_at hl 0 rfl) ?_
    refine va_get (D := (dC, dI)) (ci := 13) (v := .int (nI k)) (C := RX12) (T := TX12) (N := 115) hx hb hts (fun w h => List.mem_cons_of_mem _ (uG_X12 w h)) hown hK hP 0 rfl rfl 4 (by decide) (hts _ (List.mem_cons_of_mem _ kw_1695)) (fun _ h9 => h9) rfl dX12_back_11 ?_
    refine lv_icmp_ge (tgt := 41) hx hb dX12_back_14 (by decide) (fun c_2 => ?_) (fun c_2 => ?_)
    · skip
      have c_2 : k ≤ i := (nI_leI (a := k) (b := i) (by omega) (by omega)).mp c_2
      exact absurd c_2 (by omega)
    · skip
      have c_2 : ¬ (k ≤ i) := fun h => c_2 ((nI_leI (a := k) (b := i) (by omega) (by omega)).mpr h)
      refine lv_iload_n hx hb dX12_back_17 rfl (lv_at hl 2 rfl) ?_
      refine lv_if_lt (tgt := 41) hx hb dX12_back_18 (by decide) (fun c_3 => ?_) (fun c_3 => ?_)
      · skip
        refine lv_iconst (v := 0) hx hb dX12_back_41 (by decide) ?_
        have hP9 := hP.sub (ws' := [(h0, .inr (13, moF a (upd (upd f 4 (nI k)) 110 0) w)), (a 6, .inl (cZ, 48, .inl rt))]) [0, 1] rfl
        have hD9 := hD.sub (ws' := [(h0, .inr (13, moF a (upd (upd f 4 (nI k)) 110 0) w)), (a 6, .inl (cZ, 48, .inl rt))]) [0, 1] (by decide) rfl
        have hK9 := hK.sub (tys' := [(cB, .byte), (cI, .int), (cJ, .long), (cZ, .boolean)]) [0, 1, 2, 3] rfl
        exact W.zret (v := 0) hx hb hr (by rfl) (fun t_ ht hW => ⟨⟨0, (), rfl, rfl, by rw [ht]; exact hP9, va_K.moved hW.alike hK9, hD9⟩, hS.F ht⟩) hS.2.2 dX12_back_42
      · skip
        refine lv_iload_n hx hb dX12_back_21 rfl (lv_at hl 2 rfl) ?_
        refine lv_bipush (v := 7) hx hb dX12_back_22 (by decide) ?_
        refine lv_icmp_gt (tgt := 41) hx hb dX12_back_24 (by decide) (fun c_4 => ?_) (fun c_4 => ?_)
        · skip
          refine lv_iconst (v := 0) hx hb dX12_back_41 (by decide) ?_
          have hP9 := hP.sub (ws' := [(h0, .inr (13, moF a (upd (upd f 4 (nI k)) 110 0) w)), (a 6, .inl (cZ, 48, .inl rt))]) [0, 1] rfl
          have hD9 := hD.sub (ws' := [(h0, .inr (13, moF a (upd (upd f 4 (nI k)) 110 0) w)), (a 6, .inl (cZ, 48, .inl rt))]) [0, 1] (by decide) rfl
          have hK9 := hK.sub (tys' := [(cB, .byte), (cI, .int), (cJ, .long), (cZ, .boolean)]) [0, 1, 2, 3] rfl
          exact W.zret (v := 0) hx hb hr (by rfl) (fun t_ ht hW => ⟨⟨0, (), rfl, rfl, by rw [ht]; exact hP9, va_K.moved hW.alike hK9, hD9⟩, hS.F ht⟩) hS.2.2 dX12_back_42
        · skip
          exact absurd ho (not_or.mpr ⟨c_3, c_4⟩)
abbrev cs_t_X12_back_in (cB cI cJ cZ : ClassId) (h0 : Nat) (a : Nat → Nat) (f : Nat → Int32) (w : Int64) (k : Nat) (rt : Nat → Int32) (i j : Nat) : va_W := [(h0, .inr (13, moF a (upd f 4 (nI k)) w)), (a 6, .inl (cZ, 48, .inl rt))]
abbrev pc_t_X12_back_in (dC : Nat → ClassId) (dI : Nat → Nat → Nat) (sz : Nat) (cB cI cJ cZ : ClassId) (h0 : Nat) (a : Nat → Nat) (f : Nat → Int32) (w : Int64) (k : Nat) (rt : Nat → Int32) (i j : Nat) : Array Value → State → Prop := va_Pc [.ref h0, .int (nI i), .int (nI j)] (fun U => U.heap.size = sz ∧ va_P (dC, dI) vwCl [(h0, .inr (13, moF a (upd f 4 (nI k)) w)), (a 6, .inl (cZ, 48, .inl rt))] U.heap ∧ va_K (dC, dI) vwCl [(cB, .byte), (cI, .int), (cJ, .long), (cZ, .boolean)] U ∧ va_D (fun _ => True) [(h0, .inr (13, moF a (upd f 4 (nI k)) w)), (a 6, .inl (cZ, 48, .inl rt))])
abbrev qc_t_X12_back_in (dC : Nat → ClassId) (dI : Nat → Nat → Nat) (cB cI cJ cZ : ClassId) (h0 : Nat) (a : Nat → Nat) (f : Nat → Int32) (w : Int64) (k : Nat) (rt : Nat → Int32) (i j : Nat) (A : Nat → Prop) : Array Value → State → Outcome → State → Prop := va_Qi (fun (r : Int32) (u : Nat → Int32) => match u with | t2 => r = hvI (rt (8 * i + j)) ∧ t2 = if rt (8 * i + j) = 0 then rt else upd rt (8 * i + j) 0) (fun (u : Nat → Int32) t_ => match u with | t2 => va_P (dC, dI) vwCl [(h0, .inr (13, moF a (upd (upd f 4 (nI k)) 110 0) w)), (a 6, .inl (cZ, 48, .inl t2))] t_.heap ∧ va_K (dC, dI) vwCl [(cB, .byte), (cI, .int), (cJ, .long), (cZ, .boolean)] t_ ∧ va_D A [(h0, .inr (13, moF a (upd (upd f 4 (nI k)) 110 0) w)), (a 6, .inl (cZ, 48, .inl t2))]) A
set_option maxHeartbeats 4000000 in
set_option maxRecDepth 100000 in
theorem t_X12_back_in (l : Launch) (dC : Nat → ClassId) (dI : Nat → Nat → Nat) (sz : Nat) (cB cI cJ cZ : ClassId) (h0 : Nat) (a : Nat → Nat) (f : Nat → Int32) (w : Int64) (k : Nat) (rt : Nat → Int32) (i j : Nat) (hhq : f 81 = 0) (hk : k ≤ 6) (hi : i < k) (hj : j < 8) : Met l yX12_back (wsOf yX12_back cX12_back 3 (some .boolean)) ({ frames := 1, cells := 0, slots := 0, locals := 60 }) (pc_t_X12_back_in dC dI sz cB cI cJ cZ h0 a f w k rt i j) (qc_t_X12_back_in dC dI cB cI cJ cZ h0 a f w k rt i j (va_A (cs_t_X12_back_in cB cI cJ cZ h0 a f w k rt i j) sz)) 0 0 (va_A (cs_t_X12_back_in cB cI cJ cZ h0 a f w k rt i j) sz) := by
  refine Met.ofW (cc := cX12_back) (maxL := 3) (ret := (some .boolean)) (by decide) rfl ?_
  intro p e s m args below meth c s₁ B hml hv
  obtain ⟨rfl, hsz, hP, hK, hD0⟩ := hv
  have hx := B.exec
  have hb := B.bytes
  have hr := B.returns
  have hts := atoms_spec (ws := (wsOf yX12_back cX12_back 3 (some .boolean))) B.pre
  have hown : s.vm.findClass RX12 = some m.cls := findClass_of_methodNamed B.named
  have hlocks := B.notSynchronized
  subst hsz
  have hD := hD0.self (sz := s.heap.size)
  generalize hAe : va_A (cs_t_X12_back_in cB cI cJ cZ h0 a f w k rt i j) s.heap.size = A at hD ⊢
  have hA : ∀ q : Nat, s.heap.size ≤ q → A q := fun q h => by rw [← hAe]; exact Or.inr h
  have hS : va_S A s.heap s.heap [] := va_S.rf
  have hP : va_P (dC, dI) vwCl [(h0, .inr (13, moF a (upd f 4 (nI k)) w)), (a 6, .inl (cZ, 48, .inl rt))] s.heap := hP
  have hl := lv_entry ([.ref h0, .int (nI i), .int (nI j)]) (n := 3) (Nat.le_of_ble_eq_true rfl)
  rw [lg_entry_eq]
  generalize (lg_sl ([.ref h0, .int (nI i), .int (nI j)]) ++ List.replicate (3 - (lg_sl ([.ref h0, .int (nI i), .int (nI j)])).length) Slot.unset).toArray = ls at hl ⊢
  have hl : lv_has ls 3 [(0, .ref h0), (1, .int (nI i)), (2, .int (nI j))] := hl
  refine lv_aload_n hx hb dX12_back_0 rfl (lv_at hl 0 rfl) ?_
  refine lv_iconst (v := 0) hx hb dX12_back_1 (by decide) ?_
  refine va_put (D := (dC, dI)) (ci := 13) (v := .int 0) (ty := .int) (C := RX12) (T := TX12) (N := 115) hx hb hts (fun w h => List.mem_cons_of_mem _ (uG_X12 w h)) tyX12 tyX12_ok nmX12 hown hK hP hD hS 0 rfl rfl 110 (by decide) (hts _ (List.mem_cons_of_mem _ kw_1801)) (fun _ h9 => h9) rfl (by decide +kernel) rfl rfl (Nat.le_of_ble_eq_true rfl) dX12_back_2 (fun H locs hP hD hS => ?_)
  have hP : va_P (dC, dI) vwCl [(h0, .inr (13, moF a (upd (upd f 4 (nI k)) 110 0) w)), (a 6, .inl (cZ, 48, .inl rt))] H := hP
  have hD : va_D A [(h0, .inr (13, moF a (upd (upd f 4 (nI k)) 110 0) w)), (a 6, .inl (cZ, 48, .inl rt))] := hD
  refine lv_iload_n hx hb dX12_back_5 rfl (lv_at hl 1 rfl) ?_
  refine lv_if_lt (tgt := 41) hx hb dX12_back_6 (by decide) (fun c_1 => ?_) (fun c_1 => ?_)
  · skip
    have c_1 : i < 0 := (nI_ltI (a := i) (b := 0) (by omega) (by omega)).mp c_1
    exact absurd c_1 (by omega)
  · skip
    have c_1 : ¬ (i < 0) := fun h => c_1 ((nI_ltI (a := i) (b := 0) (by omega) (by omega)).mpr h)
    refine lv_iload_n hx hb dX12_back_9 rfl (lv_at hl 1 rfl) ?_
    refine lv_aload_n hx hb dX12_back_10 rfl (lv_at hl 0 rfl) ?_
    refine va_get (D := (dC, dI)) (ci := 13) (v := .int (nI k)) (C := RX12) (T := TX12) (N := 115) hx hb hts (fun w h => List.mem_cons_of_mem _ (uG_X12 w h)) hown hK hP 0 rfl rfl 4 (by decide) (hts _ (List.mem_cons_of_mem _ kw_1695)) (fun _ h9 => h9) rfl dX12_back_11 ?_
    refine lv_icmp_ge (tgt := 41) hx hb dX12_back_14 (by decide) (fun c_2 => ?_) (fun c_2 => ?_)
    · skip
      have c_2 : k ≤ i := (nI_leI (a := k) (b := i) (by omega) (by omega)).mp c_2
      exact absurd c_2 (by omega)
    · skip
      have c_2 : ¬ (k ≤ i) := fun h => c_2 ((nI_leI (a := k) (b := i) (by omega) (by omega)).mpr h)
      refine lv_iload_n hx hb dX12_back_17 rfl (lv_at hl 2 rfl) ?_
      refine lv_if_lt (tgt := 41) hx hb dX12_back_18 (by decide) (fun c_3 => ?_) (fun c_3 => ?_)
      · skip
        have c_3 : j < 0 := (nI_ltI (a := j) (b := 0) (by omega) (by omega)).mp c_3
        exact absurd c_3 (by omega)
      · skip
        have c_3 : ¬ (j < 0) := fun h => c_3 ((nI_ltI (a := j) (b := 0) (by omega) (by omega)).mpr h)
        refine lv_iload_n hx hb dX12_back_21 rfl (lv_at hl 2 rfl) ?_
        refine lv_bipush (v := 7) hx hb dX12_back_22 (by decide) ?_
        refine lv_icmp_gt (tgt := 41) hx hb dX12_back_24 (by decide) (fun c_4 => ?_) (fun c_4 => ?_)
        · skip
          have c_4 : 7 < j := (nI_ltI (a := 7) (b := j) (by omega) (by omega)).mp c_4
          exact absurd c_4 (by omega)
        · skip
          have c_4 : ¬ (7 < j) := fun h => c_4 ((nI_ltI (a := 7) (b := j) (by omega) (by omega)).mpr h)
          refine lv_aload_n hx hb dX12_back_27 rfl (lv_at hl 0 rfl) ?_
          refine va_get (D := (dC, dI)) (ci := 13) (v := .ref (a 6)) (C := RX12) (T := TX12) (N := 115) hx hb hts (fun w h => List.mem_cons_of_mem _ (uG_X12 w h)) hown hK hP 0 rfl rfl 6 (by decide) (hts _ (List.mem_cons_of_mem _ kw_1697)) (fun _ h9 => h9) rfl dX12_back_28 ?_
          refine lv_bipush (v := 8) hx hb dX12_back_31 (by decide) ?_
          refine lv_iload_n hx hb dX12_back_33 rfl (lv_at hl 1 rfl) ?_
          refine lv_imul hx hb dX12_back_34 ?_
          refine lv_topi (fun x_5 ex_5 => ?_)
          have ex_5 : x_5 = nI (8 * i) := ex_5.trans (pk_mul 8 i)
          subst ex_5
          refine lv_iload_n hx hb dX12_back_35 rfl (lv_at hl 2 rfl) ?_
          refine lv_iadd hx hb dX12_back_36 ?_
          refine lv_topi (fun x_6 ex_6 => ?_)
          have ex_6 : x_6 = nI (8 * i + j) := ex_6.trans (nI_add (8 * i) j)
          subst ex_6
          refine va_zald hx hb hK hP 1 3 rfl rfl (i := (nI (8 * i + j))) (vp_in_nI (n := 8 * i + j) (N := 48) (by omega) (by omega)) dX12_back_37 ?_
          refine lv_topi (fun x_7 ex_7 => ?_)
          have ex_7 : x_7 = rt (8 * i + j) := ex_7.trans (congrArg rt (nI_clamp (n := 8 * i + j) (by omega)))
          subst ex_7
          refine lv_if_ne (tgt := 43) hx hb dX12_back_38 (by decide) (fun c_8 => ?_) (fun c_8 => ?_)
          · skip
            refine lv_aload_n hx hb dX12_back_43 rfl (lv_at hl 0 rfl) ?_
            refine va_get (D := (dC, dI)) (ci := 13) (v := .ref (a 6)) (C := RX12) (T := TX12) (N := 115) hx hb hts (fun w h => List.mem_cons_of_mem _ (uG_X12 w h)) hown hK hP 0 rfl rfl 6 (by decide) (hts _ (List.mem_cons_of_mem _ kw_1697)) (fun _ h9 => h9) rfl dX12_back_44 ?_
            refine lv_bipush (v := 8) hx hb dX12_back_47 (by decide) ?_
            refine lv_iload_n hx hb dX12_back_49 rfl (lv_at hl 1 rfl) ?_
            refine lv_imul hx hb dX12_back_50 ?_
            refine lv_topi (fun x_9 ex_9 => ?_)
            have ex_9 : x_9 = nI (8 * i) := ex_9.trans (pk_mul 8 i)
            subst ex_9
            refine lv_iload_n hx hb dX12_back_51 rfl (lv_at hl 2 rfl) ?_
            refine lv_iadd hx hb dX12_back_52 ?_
            refine lv_topi (fun x_10 ex_10 => ?_)
            have ex_10 : x_10 = nI (8 * i + j) := ex_10.trans (nI_add (8 * i) j)
            subst ex_10
            refine lv_iconst (v := 0) hx hb dX12_back_53 (by decide) ?_
            refine va_zast hx hb hK hP hD hS 1 3 rfl rfl (i := (nI (8 * i + j))) (x := 0) (vp_in_nI (n := 8 * i + j) (N := 48) (by omega) (by omega)) dX12_back_54 (fun H locs hP hD hS => ?_)
            rw [show (nI (8 * i + j)).toNatClampNeg = 8 * i + j from nI_clamp (n := 8 * i + j) (by omega)] at hP hD
            have hP : va_P (dC, dI) vwCl [(h0, .inr (13, moF a (upd (upd f 4 (nI k)) 110 0) w)), (a 6, .inl (cZ, 48, .inl (upd rt (8 * i + j) (vp_nar .boolean 0))))] H := hP
            have hD : va_D A [(h0, .inr (13, moF a (upd (upd f 4 (nI k)) 110 0) w)), (a 6, .inl (cZ, 48, .inl (upd rt (8 * i + j) (vp_nar .boolean 0))))] := hD
            refine lv_aload_n hx hb dX12_back_55 rfl (lv_at hl 0 rfl) ?_
            refine lv_iconst (v := 1) hx hb dX12_back_56 (by decide) ?_
            have hPc := hP.sub (ws' := [(h0, .inr (13, moF a (upd (upd f 4 (nI k)) 110 0) w))]) [0] rfl
            have hDc := hD.sub (ws' := [(h0, .inr (13, moF a (upd (upd f 4 (nI k)) 110 0) w))]) [0] (by decide) rfl
            have hKc := hK.sub (tys' := [(cB, .byte), (cI, .int), (cJ, .long), (cZ, .boolean)]) [0, 1, 2, 3] rfl
            have hFc := va_free (wc := [(h0, .inr (13, moF a (upd (upd f 4 (nI k)) 110 0) w))]) hD hS hA [0] rfl
            refine va_callv (va_runV (As := [.int 1]) (rest := []) ⟨hx, hb, hml, hown, hts⟩ (t_X12_renew_0 l dC dI H.size cB cI cJ cZ h0 a (upd (upd f 4 (nI k)) 110 0) w 1 hhq) (cwV 1 hts (gd_all (in_V kw_2070 kw_2072 kw_99 kw_191 kc_X12_renew)) rfl rfl rfl (by decide +kernel) ⟨Nat.le_of_ble_eq_true rfl, Nat.le_of_ble_eq_true rfl⟩) ⟨fun a U g mk q => by obtain ⟨q0, q1, qP, qK, qD⟩ := q; exact ⟨q0, q1, qP, va_K.moved (u := U) (U := U.calling g mk a) (Vm.Alike.refl U.vm) qK, qD⟩, va_recv hKc hPc (ci := 13) (q0 := 0) rfl rfl, fun U hU hW => ⟨rfl, by rw [hU], by rw [hU]; exact hPc, va_K.moved hW.alike hKc, hDc.weaken (fun _ _ _ _ => trivial)⟩⟩ rfl rfl hl.1 rfl (lv_room (Nat.le_of_ble_eq_true rfl)) dX12_back_57 ⟨Nat.le_of_ble_eq_true rfl, Nat.le_of_ble_eq_true rfl⟩) hS (fun q _ h => hFc q h) hFc (fun u t_ H1 locs ht hvm hw hB hz1 hk1 hS => ?_)
            obtain ⟨hP1, hK1, hD1⟩ := hB
            rw [ht] at hP1
            have hK1 := va_K.moved hvm.symm hK1
            obtain ⟨hP, hD⟩ := va_join (wr := [(a 6, .inl (cZ, 48, .inl (upd rt (8 * i + j) (vp_nar .boolean 0))))]) (w1 := [(h0, .inr (13, moF a (upd (upd f 4 (nI k)) 110 0) w))]) hP hD [0] [1] rfl rfl (by decide) (by decide) hk1 hFc hP1 hD1
            have hK := (hK.sub (tys' := []) [] rfl).app hK1
            generalize H1 = H at hP hS ⊢
            have hP : va_P (dC, dI) vwCl [(a 6, .inl (cZ, 48, .inl (upd rt (8 * i + j) (vp_nar .boolean 0)))), (h0, .inr (13, moF a (upd (upd f 4 (nI k)) 110 0) w))] H := hP
            have hD : va_D A [(a 6, .inl (cZ, 48, .inl (upd rt (8 * i + j) (vp_nar .boolean 0)))), (h0, .inr (13, moF a (upd (upd f 4 (nI k)) 110 0) w))] := hD
            have hK : va_K (dC, dI) vwCl [(cB, .byte), (cI, .int), (cJ, .long), (cZ, .boolean)] s := hK
            refine lv_iconst (v := 1) hx hb dX12_back_60 (by decide) ?_
            have hP9 := hP.sub (ws' := [(h0, .inr (13, moF a (upd (upd f 4 (nI k)) 110 0) w)), (a 6, .inl (cZ, 48, .inl (upd rt (8 * i + j) (vp_nar .boolean 0))))]) [1, 0] rfl
            have hD9 := hD.sub (ws' := [(h0, .inr (13, moF a (upd (upd f 4 (nI k)) 110 0) w)), (a 6, .inl (cZ, 48, .inl (upd rt (8 * i + j) (vp_nar .boolean 0))))]) [1, 0] (by decide) rfl
            have hK9 := hK.sub (tys' := [(cB, .byte), (cI, .int), (cJ, .long), (cZ, .boolean)]) [0, 1, 2, 3] rfl
            exact W.zret (v := 1) hx hb hr (by rfl) (fun t_ ht hW => ⟨⟨1, upd rt (8 * i + j) 0, rfl, ⟨by unfold hvI; rw [if_neg c_8], (if_neg c_8).symm⟩, by rw [ht]; exact hP9, va_K.moved hW.alike hK9, hD9⟩, hS.F ht⟩) hS.2.2 dX12_back_61
          · skip
            refine lv_iconst (v := 0) hx hb dX12_back_41 (by decide) ?_
            have hP9 := hP.sub (ws' := [(h0, .inr (13, moF a (upd (upd f 4 (nI k)) 110 0) w)), (a 6, .inl (cZ, 48, .inl rt))]) [0, 1] rfl
            have hD9 := hD.sub (ws' := [(h0, .inr (13, moF a (upd (upd f 4 (nI k)) 110 0) w)), (a 6, .inl (cZ, 48, .inl rt))]) [0, 1] (by decide) rfl
            have hK9 := hK.sub (tys' := [(cB, .byte), (cI, .int), (cJ, .long), (cZ, .boolean)]) [0, 1, 2, 3] rfl
            exact W.zret (v := 0) hx hb hr (by rfl) (fun t_ ht hW => ⟨⟨0, rt, rfl, ⟨by unfold hvI; rw [if_pos c_8], (if_pos c_8).symm⟩, by rw [ht]; exact hP9, va_K.moved hW.alike hK9, hD9⟩, hS.F ht⟩) hS.2.2 dX12_back_42
theorem dX12_row_0 : decode cX12_row 0 = .ok (.aload_n 0, 1) := by decide +kernel
theorem dX12_row_1 : decode cX12_row 1 = .ok (.getfield 268, 3) := by decide +kernel
theorem dX12_row_4 : decode cX12_row 4 = .ok (.istore 4, 2) := by decide +kernel
theorem dX12_row_6 : decode cX12_row 6 = .ok (.aload_n 0, 1) := by decide +kernel
theorem dX12_row_7 : decode cX12_row 7 = .ok (.iconst 0, 1) := by decide +kernel
theorem dX12_row_8 : decode cX12_row 8 = .ok (.putfield 268, 3) := by decide +kernel
theorem dX12_row_11 : decode cX12_row 11 = .ok (.aload_n 0, 1) := by decide +kernel
theorem dX12_row_12 : decode cX12_row 12 = .ok (.iconst 0, 1) := by decide +kernel
theorem dX12_row_13 : decode cX12_row 13 = .ok (.putfield 271, 3) := by decide +kernel
theorem dX12_row_16 : decode cX12_row 16 = .ok (.iload_n 1, 1) := by decide +kernel
theorem dX12_row_17 : decode cX12_row 17 = .ok (.ifCond .lt 22, 3) := by decide +kernel
theorem dX12_row_20 : decode cX12_row 20 = .ok (.iload_n 1, 1) := by decide +kernel
theorem dX12_row_21 : decode cX12_row 21 = .ok (.aload_n 0, 1) := by decide +kernel
theorem dX12_row_22 : decode cX12_row 22 = .ok (.getfield 261, 3) := by decide +kernel
theorem dX12_row_25 : decode cX12_row 25 = .ok (.if_icmp .ge 14, 3) := by decide +kernel
theorem dX12_row_28 : decode cX12_row 28 = .ok (.iload 4, 2) := by decide +kernel
theorem dX12_row_30 : decode cX12_row 30 = .ok (.aload_n 0, 1) := by decide +kernel
theorem dX12_row_31 : decode cX12_row 31 = .ok (.getfield 16, 3) := by decide +kernel
theorem dX12_row_34 : decode cX12_row 34 = .ok (.iload_n 1, 1) := by decide +kernel
theorem dX12_row_35 : decode cX12_row 35 = .ok (.iaload, 1) := by decide +kernel
theorem dX12_row_36 : decode cX12_row 36 = .ok (.if_icmp .eq 5, 3) := by decide +kernel
theorem dX12_row_39 : decode cX12_row 39 = .ok (.iconst (-1), 1) := by decide +kernel
theorem dX12_row_40 : decode cX12_row 40 = .ok (.ireturn, 1) := by decide +kernel
theorem dX12_row_41 : decode cX12_row 41 = .ok (.iconst 0, 1) := by decide +kernel
theorem dX12_row_42 : decode cX12_row 42 = .ok (.istore 5, 2) := by decide +kernel
theorem dX12_row_44 : decode cX12_row 44 = .ok (.iload 5, 2) := by decide +kernel
theorem dX12_row_46 : decode cX12_row 46 = .ok (.bipush 8, 2) := by decide +kernel
theorem dX12_row_48 : decode cX12_row 48 = .ok (.if_icmp .ge 24, 3) := by decide +kernel
theorem dX12_row_51 : decode cX12_row 51 = .ok (.aload_n 0, 1) := by decide +kernel
theorem dX12_row_52 : decode cX12_row 52 = .ok (.getfield 20, 3) := by decide +kernel
theorem dX12_row_55 : decode cX12_row 55 = .ok (.bipush 8, 2) := by decide +kernel
theorem dX12_row_57 : decode cX12_row 57 = .ok (.iload_n 1, 1) := by decide +kernel
theorem dX12_row_58 : decode cX12_row 58 = .ok (.imul, 1) := by decide +kernel
theorem dX12_row_59 : decode cX12_row 59 = .ok (.iload 5, 2) := by decide +kernel
theorem dX12_row_61 : decode cX12_row 61 = .ok (.iadd, 1) := by decide +kernel
theorem dX12_row_62 : decode cX12_row 62 = .ok (.baload, 1) := by decide +kernel
theorem dX12_row_63 : decode cX12_row 63 = .ok (.ifCond .eq 9, 3) := by decide +kernel
theorem dX12_row_66 : decode cX12_row 66 = .ok (.iinc 5 1, 3) := by decide +kernel
theorem dX12_row_69 : decode cX12_row 69 = .ok (.goto (-25), 3) := by decide +kernel
theorem dX12_row_72 : decode cX12_row 72 = .ok (.iload 5, 2) := by decide +kernel
theorem dX12_row_74 : decode cX12_row 74 = .ok (.bipush 8, 2) := by decide +kernel
theorem dX12_row_76 : decode cX12_row 76 = .ok (.if_icmp .ne 5, 3) := by decide +kernel
theorem dX12_row_79 : decode cX12_row 79 = .ok (.iconst (-1), 1) := by decide +kernel
theorem dX12_row_80 : decode cX12_row 80 = .ok (.ireturn, 1) := by decide +kernel
theorem dX12_row_81 : decode cX12_row 81 = .ok (.bipush 8, 2) := by decide +kernel
theorem dX12_row_83 : decode cX12_row 83 = .ok (.iload_n 1, 1) := by decide +kernel
theorem dX12_row_84 : decode cX12_row 84 = .ok (.imul, 1) := by decide +kernel
theorem dX12_row_85 : decode cX12_row 85 = .ok (.iload 5, 2) := by decide +kernel
theorem dX12_row_87 : decode cX12_row 87 = .ok (.iadd, 1) := by decide +kernel
theorem dX12_row_88 : decode cX12_row 88 = .ok (.istore 6, 2) := by decide +kernel
theorem dX12_row_90 : decode cX12_row 90 = .ok (.aload_n 0, 1) := by decide +kernel
theorem dX12_row_91 : decode cX12_row 91 = .ok (.getfield 20, 3) := by decide +kernel
theorem dX12_row_94 : decode cX12_row 94 = .ok (.iload 6, 2) := by decide +kernel
theorem dX12_row_96 : decode cX12_row 96 = .ok (.iconst 1, 1) := by decide +kernel
theorem dX12_row_97 : decode cX12_row 97 = .ok (.bastore, 1) := by decide +kernel
theorem dX12_row_98 : decode cX12_row 98 = .ok (.aload_n 0, 1) := by decide +kernel
theorem dX12_row_99 : decode cX12_row 99 = .ok (.getfield 24, 3) := by decide +kernel
theorem dX12_row_102 : decode cX12_row 102 = .ok (.iload 6, 2) := by decide +kernel
theorem dX12_row_104 : decode cX12_row 104 = .ok (.lload_n 2, 1) := by decide +kernel
theorem dX12_row_105 : decode cX12_row 105 = .ok (.lastore, 1) := by decide +kernel
theorem dX12_row_106 : decode cX12_row 106 = .ok (.iconst 0, 1) := by decide +kernel
theorem dX12_row_107 : decode cX12_row 107 = .ok (.istore 7, 2) := by decide +kernel
theorem dX12_row_109 : decode cX12_row 109 = .ok (.iload 7, 2) := by decide +kernel
theorem dX12_row_111 : decode cX12_row 111 = .ok (.iload 4, 2) := by decide +kernel
theorem dX12_row_113 : decode cX12_row 113 = .ok (.if_icmp .ge 47, 3) := by decide +kernel
theorem dX12_row_116 : decode cX12_row 116 = .ok (.aload_n 0, 1) := by decide +kernel
theorem dX12_row_117 : decode cX12_row 117 = .ok (.getfield 28, 3) := by decide +kernel
theorem dX12_row_120 : decode cX12_row 120 = .ok (.iconst 4, 1) := by decide +kernel
theorem dX12_row_121 : decode cX12_row 121 = .ok (.iload 6, 2) := by decide +kernel
theorem dX12_row_123 : decode cX12_row 123 = .ok (.imul, 1) := by decide +kernel
theorem dX12_row_124 : decode cX12_row 124 = .ok (.iload 7, 2) := by decide +kernel
theorem dX12_row_126 : decode cX12_row 126 = .ok (.iadd, 1) := by decide +kernel
theorem dX12_row_127 : decode cX12_row 127 = .ok (.aload_n 0, 1) := by decide +kernel
theorem dX12_row_128 : decode cX12_row 128 = .ok (.getfield 34, 3) := by decide +kernel
theorem dX12_row_131 : decode cX12_row 131 = .ok (.iload 7, 2) := by decide +kernel
theorem dX12_row_133 : decode cX12_row 133 = .ok (.laload, 1) := by decide +kernel
theorem dX12_row_134 : decode cX12_row 134 = .ok (.lastore, 1) := by decide +kernel
theorem dX12_row_135 : decode cX12_row 135 = .ok (.aload_n 0, 1) := by decide +kernel
theorem dX12_row_136 : decode cX12_row 136 = .ok (.getfield 31, 3) := by decide +kernel
theorem dX12_row_139 : decode cX12_row 139 = .ok (.iconst 4, 1) := by decide +kernel
theorem dX12_row_140 : decode cX12_row 140 = .ok (.iload 6, 2) := by decide +kernel
theorem dX12_row_142 : decode cX12_row 142 = .ok (.imul, 1) := by decide +kernel
theorem dX12_row_143 : decode cX12_row 143 = .ok (.iload 7, 2) := by decide +kernel
theorem dX12_row_145 : decode cX12_row 145 = .ok (.iadd, 1) := by decide +kernel
theorem dX12_row_146 : decode cX12_row 146 = .ok (.aload_n 0, 1) := by decide +kernel
theorem dX12_row_147 : decode cX12_row 147 = .ok (.getfield 37, 3) := by decide +kernel
theorem dX12_row_150 : decode cX12_row 150 = .ok (.iload 7, 2) := by decide +kernel
theorem dX12_row_152 : decode cX12_row 152 = .ok (.baload, 1) := by decide +kernel
theorem dX12_row_153 : decode cX12_row 153 = .ok (.bastore, 1) := by decide +kernel
theorem dX12_row_154 : decode cX12_row 154 = .ok (.iinc 7 1, 3) := by decide +kernel
theorem dX12_row_157 : decode cX12_row 157 = .ok (.goto (-48), 3) := by decide +kernel
theorem dX12_row_160 : decode cX12_row 160 = .ok (.aload_n 0, 1) := by decide +kernel
theorem dX12_row_161 : decode cX12_row 161 = .ok (.iconst 1, 1) := by decide +kernel
theorem dX12_row_162 : decode cX12_row 162 = .ok (.invokevirtual 274, 3) := by decide +kernel
theorem dX12_row_165 : decode cX12_row 165 = .ok (.iload 5, 2) := by decide +kernel
theorem dX12_row_167 : decode cX12_row 167 = .ok (.ireturn, 1) := by decide +kernel
abbrev cs_t_X12_row_o (cB cI cJ cZ : ClassId) (h0 : Nat) (a : Nat → Nat) (f : Nat → Int32) (w : Int64) (k d : Nat) (cf rt : Nat → Int32) (ti rv dv : Nat → Int64) (rn dn : Nat → Int32) (y : Int32) (x : Int64) : va_W := [(h0, .inr (13, moF a (upd (upd f 4 (nI k)) 11 (nI d)) w)), (a 5, .inl (cI, 6, .inl cf)), (a 6, .inl (cZ, 48, .inl rt)), (a 7, .inl (cJ, 48, .inr (.inl ti))), (a 8, .inl (cJ, 192, .inr (.inl rv))), (a 9, .inl (cZ, 192, .inl rn)), (a 12, .inl (cJ, 4, .inr (.inl dv))), (a 13, .inl (cZ, 4, .inl dn))]
abbrev pc_t_X12_row_o (dC : Nat → ClassId) (dI : Nat → Nat → Nat) (sz : Nat) (cB cI cJ cZ : ClassId) (h0 : Nat) (a : Nat → Nat) (f : Nat → Int32) (w : Int64) (k d : Nat) (cf rt : Nat → Int32) (ti rv dv : Nat → Int64) (rn dn : Nat → Int32) (y : Int32) (x : Int64) : Array Value → State → Prop := va_Pc [.ref h0, .int y, .long x] (fun U => U.heap.size = sz ∧ va_P (dC, dI) vwCl [(h0, .inr (13, moF a (upd (upd f 4 (nI k)) 11 (nI d)) w)), (a 5, .inl (cI, 6, .inl cf)), (a 6, .inl (cZ, 48, .inl rt)), (a 7, .inl (cJ, 48, .inr (.inl ti))), (a 8, .inl (cJ, 192, .inr (.inl rv))), (a 9, .inl (cZ, 192, .inl rn)), (a 12, .inl (cJ, 4, .inr (.inl dv))), (a 13, .inl (cZ, 4, .inl dn))] U.heap ∧ va_K (dC, dI) vwCl [(cB, .byte), (cI, .int), (cJ, .long), (cZ, .boolean)] U ∧ va_D (fun _ => True) [(h0, .inr (13, moF a (upd (upd f 4 (nI k)) 11 (nI d)) w)), (a 5, .inl (cI, 6, .inl cf)), (a 6, .inl (cZ, 48, .inl rt)), (a 7, .inl (cJ, 48, .inr (.inl ti))), (a 8, .inl (cJ, 192, .inr (.inl rv))), (a 9, .inl (cZ, 192, .inl rn)), (a 12, .inl (cJ, 4, .inr (.inl dv))), (a 13, .inl (cZ, 4, .inl dn))])
abbrev qc_t_X12_row_o (dC : Nat → ClassId) (dI : Nat → Nat → Nat) (cB cI cJ cZ : ClassId) (h0 : Nat) (a : Nat → Nat) (f : Nat → Int32) (w : Int64) (k d : Nat) (cf rt : Nat → Int32) (ti rv dv : Nat → Int64) (rn dn : Nat → Int32) (y : Int32) (x : Int64) (A : Nat → Prop) : Array Value → State → Outcome → State → Prop := va_Qi (fun (r : Int32) (u : Unit) => match u with | _ => r = -1) (fun (u : Unit) t_ => match u with | _ => va_P (dC, dI) vwCl [(h0, .inr (13, moF a (upd (upd (upd (upd f 4 (nI k)) 11 (nI d)) 11 0) 110 0) w)), (a 5, .inl (cI, 6, .inl cf)), (a 6, .inl (cZ, 48, .inl rt)), (a 7, .inl (cJ, 48, .inr (.inl ti))), (a 8, .inl (cJ, 192, .inr (.inl rv))), (a 9, .inl (cZ, 192, .inl rn)), (a 12, .inl (cJ, 4, .inr (.inl dv))), (a 13, .inl (cZ, 4, .inl dn))] t_.heap ∧ va_K (dC, dI) vwCl [(cB, .byte), (cI, .int), (cJ, .long), (cZ, .boolean)] t_ ∧ va_D A [(h0, .inr (13, moF a (upd (upd (upd (upd f 4 (nI k)) 11 (nI d)) 11 0) 110 0) w)), (a 5, .inl (cI, 6, .inl cf)), (a 6, .inl (cZ, 48, .inl rt)), (a 7, .inl (cJ, 48, .inr (.inl ti))), (a 8, .inl (cJ, 192, .inr (.inl rv))), (a 9, .inl (cZ, 192, .inl rn)), (a 12, .inl (cJ, 4, .inr (.inl dv))), (a 13, .inl (cZ, 4, .inl dn))]) A
set_option maxHeartbeats 4000000 in
set_option maxRecDepth 100000 in
theorem t_X12_row_o (l : Launch) (dC : Nat → ClassId) (dI : Nat → Nat → Nat) (sz : Nat) (cB cI cJ cZ : ClassId) (h0 : Nat) (a : Nat → Nat) (f : Nat → Int32) (w : Int64) (k d : Nat) (cf rt : Nat → Int32) (ti rv dv : Nat → Int64) (rn dn : Nat → Int32) (y : Int32) (x : Int64) (hk : k ≤ 6) (ho : y < 0 ∨ nI k ≤ y) : Met l yX12_row (wsOf yX12_row cX12_row 8 (some .int)) ({ frames := 1, cells := 0, slots := 0, locals := 60 }) (pc_t_X12_row_o dC dI sz cB cI cJ cZ h0 a f w k d cf rt ti rv dv rn dn y x) (qc_t_X12_row_o dC dI cB cI cJ cZ h0 a f w k d cf rt ti rv dv rn dn y x (va_A (cs_t_X12_row_o cB cI cJ cZ h0 a f w k d cf rt ti rv dv rn dn y x) sz)) 0 0 (va_A (cs_t_X12_row_o cB cI cJ cZ h0 a f w k d cf rt ti rv dv rn dn y x) sz) := by
  refine Met.ofW (cc := cX12_row) (maxL := 8) (ret := (some .int)) (by decide) rfl ?_
  intro p e s m args below meth c s₁ B hml hv
  obtain ⟨rfl, hsz, hP, hK, hD0⟩ := hv
  have hx := B.exec
  have hb := B.bytes
  have hr := B.returns
  have hts := atoms_spec (ws := (wsOf yX12_row cX12_row 8 (some .int))) B.pre
  have hown : s.vm.findClass RX12 = some m.cls := findClass_of_methodNamed B.named
  have hlocks := B.notSynchronized
  subst hsz
  have hD := hD0.self (sz := s.heap.size)
  generalize hAe : va_A (cs_t_X12_row_o cB cI cJ cZ h0 a f w k d cf rt ti rv dv rn dn y x) s.heap.size = A at hD ⊢
  have hA : ∀ q : Nat, s.heap.size ≤ q → A q := fun q h => by rw [← hAe]; exact Or.inr h
  have hS : va_S A s.heap s.heap [] := va_S.rf
  have hP : va_P (dC, dI) vwCl [(h0, .inr (13, moF a (upd (upd f 4 (nI k)) 11 (nI d)) w)), (a 5, .inl (cI, 6, .inl cf)), (a 6, .inl (cZ, 48, .inl rt)), (a 7, .inl (cJ, 48, .inr (.inl ti))), (a 8, .inl (cJ, 192, .inr (.inl rv))), (a 9, .inl (cZ, 192, .inl rn)), (a 12, .inl (cJ, 4, .inr (.inl dv))), (a 13, .inl (cZ, 4, .inl dn))] s.heap := hP
  have hl := lv_entry ([.ref h0, .int y, .long x]) (n := 8) (Nat.le_of_ble_eq_true rfl)
  rw [lg_entry_eq]
  generalize (lg_sl ([.ref h0, .int y, .long x]) ++ List.replicate (8 - (lg_sl ([.ref h0, .int y, .long x])).length) Slot.unset).toArray = ls at hl ⊢
  have hl : lv_has ls 8 [(0, .ref h0), (1, .int y), (2, .long x)] := hl
  refine lv_aload_n hx hb dX12_row_0 rfl (lv_at hl 0 rfl) ?_
  refine va_get (D := (dC, dI)) (ci := 13) (v := .int (nI d)) (C := RX12) (T := TX12) (N := 115) hx hb hts (fun w h => List.mem_cons_of_mem _ (uG_X12 w h)) hown hK hP 0 rfl rfl 11 (by decide) (hts _ (List.mem_cons_of_mem _ kw_1702)) (fun _ h9 => h9) rfl dX12_row_1 ?_
  refine lv_istore (lv' := [(4, .int (nI d)), (0, .ref h0), (1, .int y), (2, .long x)]) hx hb dX12_row_4 hl (by decide) rfl (fun ls hl => ?_)
  refine lv_aload_n hx hb dX12_row_6 rfl (lv_at hl 1 rfl) ?_
  refine lv_iconst (v := 0) hx hb dX12_row_7 (by decide) ?_
  refine va_put (D := (dC, dI)) (ci := 13) (v := .int 0) (ty := .int) (C := RX12) (T := TX12) (N := 115) hx hb hts (fun w h => List.mem_cons_of_mem _ (uG_X12 w h)) tyX12 tyX12_ok nmX12 hown hK hP hD hS 0 rfl rfl 11 (by decide) (hts _ (List.mem_cons_of_mem _ kw_1702)) (fun _ h9 => h9) rfl (by decide +kernel) rfl rfl (Nat.le_of_ble_eq_true rfl) dX12_row_8 (fun H locs hP hD hS => ?_)
  have hP : va_P (dC, dI) vwCl [(h0, .inr (13, moF a (upd (upd f 4 (nI k)) 11 0) w)), (a 5, .inl (cI, 6, .inl cf)), (a 6, .inl (cZ, 48, .inl rt)), (a 7, .inl (cJ, 48, .inr (.inl ti))), (a 8, .inl (cJ, 192, .inr (.inl rv))), (a 9, .inl (cZ, 192, .inl rn)), (a 12, .inl (cJ, 4, .inr (.inl dv))), (a 13, .inl (cZ, 4, .inl dn))] H := hP
  have hD : va_D A [(h0, .inr (13, moF a (upd (upd f 4 (nI k)) 11 0) w)), (a 5, .inl (cI, 6, .inl cf)), (a 6, .inl (cZ, 48, .inl rt)), (a 7, .inl (cJ, 48, .inr (.inl ti))), (a 8, .inl (cJ, 192, .inr (.inl rv))), (a 9, .inl (cZ, 192, .inl rn)), (a 12, .inl (cJ, 4, .inr (.inl dv))), (a 13, .inl (cZ, 4, .inl dn))] := hD
  refine lv_aload_n hx hb dX12_row_11 rfl (lv_at hl 1 rfl) ?_
  refine lv_iconst (v := 0) hx hb dX12_row_12 (by decide) ?_
  refine va_put (D := (dC, dI)) (ci := 13) (v := .int 0) (ty := .int) (C := RX12) (T := TX12) (N := 115) hx hb hts (fun w h => List.mem_cons_of_mem _ (uG_X12 w h)) tyX12 tyX12_ok nmX12 hown hK hP hD hS 0 rfl rfl 110 (by decide) (hts _ (List.mem_cons_of_mem _ kw_1801)) (fun _ h9 => h9) rfl (by decide +kernel) rfl rfl (Nat.le_of_ble_eq_true rfl) dX12_row_13 (fun H locs hP hD hS => ?_)
  have hP : va_P (dC, dI) vwCl [(h0, .inr (13, moF a (upd (upd (upd f 4 (nI k)) 11 0) 110 0) w)), (a 5, .inl (cI, 6, .inl cf)), (a 6, .inl (cZ, 48, .inl rt)), (a 7, .inl (cJ, 48, .inr (.inl ti))), (a 8, .inl (cJ, 192, .inr (.inl rv))), (a 9, .inl (cZ, 192, .inl rn)), (a 12, .inl (cJ, 4, .inr (.inl dv))), (a 13, .inl (cZ, 4, .inl dn))] H := hP
  have hD : va_D A [(h0, .inr (13, moF a (upd (upd (upd f 4 (nI k)) 11 0) 110 0) w)), (a 5, .inl (cI, 6, .inl cf)), (a 6, .inl (cZ, 48, .inl rt)), (a 7, .inl (cJ, 48, .inr (.inl ti))), (a 8, .inl (cJ, 192, .inr (.inl rv))), (a 9, .inl (cZ, 192, .inl rn)), (a 12, .inl (cJ, 4, .inr (.inl dv))), (a 13, .inl (cZ, 4, .inl dn))] := hD
  refine lv_iload_n hx hb dX12_row_16 rfl (lv_at hl 2 rfl) ?_
  refine lv_if_lt (tgt := 39) hx hb dX12_row_17 (by decide) (fun c_1 => ?_) (fun c_1 => ?_)
  · skip
    refine lv_iconst (v := (-1)) hx hb dX12_row_39 (by decide) ?_
    have hP9 := hP.sub (ws' := [(h0, .inr (13, moF a (upd (upd (upd f 4 (nI k)) 11 0) 110 0) w)), (a 5, .inl (cI, 6, .inl cf)), (a 6, .inl (cZ, 48, .inl rt)), (a 7, .inl (cJ, 48, .inr (.inl ti))), (a 8, .inl (cJ, 192, .inr (.inl rv))), (a 9, .inl (cZ, 192, .inl rn)), (a 12, .inl (cJ, 4, .inr (.inl dv))), (a 13, .inl (cZ, 4, .inl dn))]) [0, 1, 2, 3, 4, 5, 6, 7] rfl
    have hD9 := hD.sub (ws' := [(h0, .inr (13, moF a (upd (upd (upd f 4 (nI k)) 11 0) 110 0) w)), (a 5, .inl (cI, 6, .inl cf)), (a 6, .inl (cZ, 48, .inl rt)), (a 7, .inl (cJ, 48, .inr (.inl ti))), (a 8, .inl (cJ, 192, .inr (.inl rv))), (a 9, .inl (cZ, 192, .inl rn)), (a 12, .inl (cJ, 4, .inr (.inl dv))), (a 13, .inl (cZ, 4, .inl dn))]) [0, 1, 2, 3, 4, 5, 6, 7] (by decide) rfl
    have hK9 := hK.sub (tys' := [(cB, .byte), (cI, .int), (cJ, .long), (cZ, .boolean)]) [0, 1, 2, 3] rfl
    exact W.iret (v := (-1)) hx hb hr (fun t_ ht hW => ⟨⟨(-1), (), rfl, rfl, by rw [ht]; exact hP9, va_K.moved hW.alike hK9, hD9⟩, hS.F ht⟩) hS.2.2 dX12_row_40
  · skip
    refine lv_iload_n hx hb dX12_row_20 rfl (lv_at hl 2 rfl) ?_
    refine lv_aload_n hx hb dX12_row_21 rfl (lv_at hl 1 rfl) ?_
    refine va_get (D := (dC, dI)) (ci := 13) (v := .int (nI k)) (C := RX12) (T := TX12) (N := 115) hx hb hts (fun w h => List.mem_cons_of_mem _ (uG_X12 w h)) hown hK hP 0 rfl rfl 4 (by decide) (hts _ (List.mem_cons_of_mem _ kw_1695)) (fun _ h9 => h9) rfl dX12_row_22 ?_
    refine lv_icmp_ge (tgt := 39) hx hb dX12_row_25 (by decide) (fun c_2 => ?_) (fun c_2 => ?_)
    · skip
      refine lv_iconst (v := (-1)) hx hb dX12_row_39 (by decide) ?_
      have hP9 := hP.sub (ws' := [(h0, .inr (13, moF a (upd (upd (upd f 4 (nI k)) 11 0) 110 0) w)), (a 5, .inl (cI, 6, .inl cf)), (a 6, .inl (cZ, 48, .inl rt)), (a 7, .inl (cJ, 48, .inr (.inl ti))), (a 8, .inl (cJ, 192, .inr (.inl rv))), (a 9, .inl (cZ, 192, .inl rn)), (a 12, .inl (cJ, 4, .inr (.inl dv))), (a 13, .inl (cZ, 4, .inl dn))]) [0, 1, 2, 3, 4, 5, 6, 7] rfl
      have hD9 := hD.sub (ws' := [(h0, .inr (13, moF a (upd (upd (upd f 4 (nI k)) 11 0) 110 0) w)), (a 5, .inl (cI, 6, .inl cf)), (a 6, .inl (cZ, 48, .inl rt)), (a 7, .inl (cJ, 48, .inr (.inl ti))), (a 8, .inl (cJ, 192, .inr (.inl rv))), (a 9, .inl (cZ, 192, .inl rn)), (a 12, .inl (cJ, 4, .inr (.inl dv))), (a 13, .inl (cZ, 4, .inl dn))]) [0, 1, 2, 3, 4, 5, 6, 7] (by decide) rfl
      have hK9 := hK.sub (tys' := [(cB, .byte), (cI, .int), (cJ, .long), (cZ, .boolean)]) [0, 1, 2, 3] rfl
      exact W.iret (v := (-1)) hx hb hr (fun t_ ht hW => ⟨⟨(-1), (), rfl, rfl, by rw [ht]; exact hP9, va_K.moved hW.alike hK9, hD9⟩, hS.F ht⟩) hS.2.2 dX12_row_40
    · skip
      exact absurd ho (not_or.mpr ⟨c_1, c_2⟩)
abbrev cs_t_X12_row_n (cB cI cJ cZ : ClassId) (h0 : Nat) (a : Nat → Nat) (f : Nat → Int32) (w : Int64) (k d : Nat) (cf rt : Nat → Int32) (ti rv dv : Nat → Int64) (rn dn : Nat → Int32) (i n1 : Nat) (x : Int64) : va_W := [(h0, .inr (13, moF a (upd (upd f 4 (nI k)) 11 (nI d)) w)), (a 5, .inl (cI, 6, .inl cf)), (a 6, .inl (cZ, 48, .inl rt)), (a 7, .inl (cJ, 48, .inr (.inl ti))), (a 8, .inl (cJ, 192, .inr (.inl rv))), (a 9, .inl (cZ, 192, .inl rn)), (a 12, .inl (cJ, 4, .inr (.inl dv))), (a 13, .inl (cZ, 4, .inl dn))]
abbrev pc_t_X12_row_n (dC : Nat → ClassId) (dI : Nat → Nat → Nat) (sz : Nat) (cB cI cJ cZ : ClassId) (h0 : Nat) (a : Nat → Nat) (f : Nat → Int32) (w : Int64) (k d : Nat) (cf rt : Nat → Int32) (ti rv dv : Nat → Int64) (rn dn : Nat → Int32) (i n1 : Nat) (x : Int64) : Array Value → State → Prop := va_Pc [.ref h0, .int (nI i), .long x] (fun U => U.heap.size = sz ∧ va_P (dC, dI) vwCl [(h0, .inr (13, moF a (upd (upd f 4 (nI k)) 11 (nI d)) w)), (a 5, .inl (cI, 6, .inl cf)), (a 6, .inl (cZ, 48, .inl rt)), (a 7, .inl (cJ, 48, .inr (.inl ti))), (a 8, .inl (cJ, 192, .inr (.inl rv))), (a 9, .inl (cZ, 192, .inl rn)), (a 12, .inl (cJ, 4, .inr (.inl dv))), (a 13, .inl (cZ, 4, .inl dn))] U.heap ∧ va_K (dC, dI) vwCl [(cB, .byte), (cI, .int), (cJ, .long), (cZ, .boolean)] U ∧ va_D (fun _ => True) [(h0, .inr (13, moF a (upd (upd f 4 (nI k)) 11 (nI d)) w)), (a 5, .inl (cI, 6, .inl cf)), (a 6, .inl (cZ, 48, .inl rt)), (a 7, .inl (cJ, 48, .inr (.inl ti))), (a 8, .inl (cJ, 192, .inr (.inl rv))), (a 9, .inl (cZ, 192, .inl rn)), (a 12, .inl (cJ, 4, .inr (.inl dv))), (a 13, .inl (cZ, 4, .inl dn))])
abbrev qc_t_X12_row_n (dC : Nat → ClassId) (dI : Nat → Nat → Nat) (cB cI cJ cZ : ClassId) (h0 : Nat) (a : Nat → Nat) (f : Nat → Int32) (w : Int64) (k d : Nat) (cf rt : Nat → Int32) (ti rv dv : Nat → Int64) (rn dn : Nat → Int32) (i n1 : Nat) (x : Int64) (A : Nat → Prop) : Array Value → State → Outcome → State → Prop := va_Qi (fun (r : Int32) (u : Unit) => match u with | _ => r = -1) (fun (u : Unit) t_ => match u with | _ => va_P (dC, dI) vwCl [(h0, .inr (13, moF a (upd (upd (upd (upd f 4 (nI k)) 11 (nI d)) 11 0) 110 0) w)), (a 5, .inl (cI, 6, .inl cf)), (a 6, .inl (cZ, 48, .inl rt)), (a 7, .inl (cJ, 48, .inr (.inl ti))), (a 8, .inl (cJ, 192, .inr (.inl rv))), (a 9, .inl (cZ, 192, .inl rn)), (a 12, .inl (cJ, 4, .inr (.inl dv))), (a 13, .inl (cZ, 4, .inl dn))] t_.heap ∧ va_K (dC, dI) vwCl [(cB, .byte), (cI, .int), (cJ, .long), (cZ, .boolean)] t_ ∧ va_D A [(h0, .inr (13, moF a (upd (upd (upd (upd f 4 (nI k)) 11 (nI d)) 11 0) 110 0) w)), (a 5, .inl (cI, 6, .inl cf)), (a 6, .inl (cZ, 48, .inl rt)), (a 7, .inl (cJ, 48, .inr (.inl ti))), (a 8, .inl (cJ, 192, .inr (.inl rv))), (a 9, .inl (cZ, 192, .inl rn)), (a 12, .inl (cJ, 4, .inr (.inl dv))), (a 13, .inl (cZ, 4, .inl dn))]) A
set_option maxHeartbeats 4000000 in
set_option maxRecDepth 100000 in
theorem t_X12_row_n (l : Launch) (dC : Nat → ClassId) (dI : Nat → Nat → Nat) (sz : Nat) (cB cI cJ cZ : ClassId) (h0 : Nat) (a : Nat → Nat) (f : Nat → Int32) (w : Int64) (k d : Nat) (cf rt : Nat → Int32) (ti rv dv : Nat → Int64) (rn dn : Nat → Int32) (i n1 : Nat) (x : Int64) (hk : k ≤ 6) (hi : i < k) (hci : cf i = nI n1) (hn1 : n1 ≤ 4) (hd : d ≤ 4) (hne : ¬ d = n1) : Met l yX12_row (wsOf yX12_row cX12_row 8 (some .int)) ({ frames := 1, cells := 0, slots := 0, locals := 60 }) (pc_t_X12_row_n dC dI sz cB cI cJ cZ h0 a f w k d cf rt ti rv dv rn dn i n1 x) (qc_t_X12_row_n dC dI cB cI cJ cZ h0 a f w k d cf rt ti rv dv rn dn i n1 x (va_A (cs_t_X12_row_n cB cI cJ cZ h0 a f w k d cf rt ti rv dv rn dn i n1 x) sz)) 0 0 (va_A (cs_t_X12_row_n cB cI cJ cZ h0 a f w k d cf rt ti rv dv rn dn i n1 x) sz) := by
  refine Met.ofW (cc := cX12_row) (maxL := 8) (ret := (some .int)) (by decide) rfl ?_
  intro p e s m args below meth c s₁ B hml hv
  obtain ⟨rfl, hsz, hP, hK, hD0⟩ := hv
  have hx := B.exec
  have hb := B.bytes
  have hr := B.returns
  have hts := atoms_spec (ws := (wsOf yX12_row cX12_row 8 (some .int))) B.pre
  have hown : s.vm.findClass RX12 = some m.cls := findClass_of_methodNamed B.named
  have hlocks := B.notSynchronized
  subst hsz
  have hD := hD0.self (sz := s.heap.size)
  generalize hAe : va_A (cs_t_X12_row_n cB cI cJ cZ h0 a f w k d cf rt ti rv dv rn dn i n1 x) s.heap.size = A at hD ⊢
  have hA : ∀ q : Nat, s.heap.size ≤ q → A q := fun q h => by rw [← hAe]; exact Or.inr h
  have hS : va_S A s.heap s.heap [] := va_S.rf
  have hP : va_P (dC, dI) vwCl [(h0, .inr (13, moF a (upd (upd f 4 (nI k)) 11 (nI d)) w)), (a 5, .inl (cI, 6, .inl cf)), (a 6, .inl (cZ, 48, .inl rt)), (a 7, .inl (cJ, 48, .inr (.inl ti))), (a 8, .inl (cJ, 192, .inr (.inl rv))), (a 9, .inl (cZ, 192, .inl rn)), (a 12, .inl (cJ, 4, .inr (.inl dv))), (a 13, .inl (cZ, 4, .inl dn))] s.heap := hP
  have hl := lv_entry ([.ref h0, .int (nI i), .long x]) (n := 8) (Nat.le_of_ble_eq_true rfl)
  rw [lg_entry_eq]
  generalize (lg_sl ([.ref h0, .int (nI i), .long x]) ++ List.replicate (8 - (lg_sl ([.ref h0, .int (nI i), .long x])).length) Slot.unset).toArray = ls at hl ⊢
  have hl : lv_has ls 8 [(0, .ref h0), (1, .int (nI i)), (2, .long x)] := hl
  refine lv_aload_n hx hb dX12_row_0 rfl (lv_at hl 0 rfl) ?_
  refine va_get (D := (dC, dI)) (ci := 13) (v := .int (nI d)) (C := RX12) (T := TX12) (N := 115) hx hb hts (fun w h => List.mem_cons_of_mem _ (uG_X12 w h)) hown hK hP 0 rfl rfl 11 (by decide) (hts _ (List.mem_cons_of_mem _ kw_1702)) (fun _ h9 => h9) rfl dX12_row_1 ?_
  refine lv_istore (lv' := [(4, .int (nI d)), (0, .ref h0), (1, .int (nI i)), (2, .long x)]) hx hb dX12_row_4 hl (by decide) rfl (fun ls hl => ?_)
  refine lv_aload_n hx hb dX12_row_6 rfl (lv_at hl 1 rfl) ?_
  refine lv_iconst (v := 0) hx hb dX12_row_7 (by decide) ?_
  refine va_put (D := (dC, dI)) (ci := 13) (v := .int 0) (ty := .int) (C := RX12) (T := TX12) (N := 115) hx hb hts (fun w h => List.mem_cons_of_mem _ (uG_X12 w h)) tyX12 tyX12_ok nmX12 hown hK hP hD hS 0 rfl rfl 11 (by decide) (hts _ (List.mem_cons_of_mem _ kw_1702)) (fun _ h9 => h9) rfl (by decide +kernel) rfl rfl (Nat.le_of_ble_eq_true rfl) dX12_row_8 (fun H locs hP hD hS => ?_)
  have hP : va_P (dC, dI) vwCl [(h0, .inr (13, moF a (upd (upd f 4 (nI k)) 11 0) w)), (a 5, .inl (cI, 6, .inl cf)), (a 6, .inl (cZ, 48, .inl rt)), (a 7, .inl (cJ, 48, .inr (.inl ti))), (a 8, .inl (cJ, 192, .inr (.inl rv))), (a 9, .inl (cZ, 192, .inl rn)), (a 12, .inl (cJ, 4, .inr (.inl dv))), (a 13, .inl (cZ, 4, .inl dn))] H := hP
  have hD : va_D A [(h0, .inr (13, moF a (upd (upd f 4 (nI k)) 11 0) w)), (a 5, .inl (cI, 6, .inl cf)), (a 6, .inl (cZ, 48, .inl rt)), (a 7, .inl (cJ, 48, .inr (.inl ti))), (a 8, .inl (cJ, 192, .inr (.inl rv))), (a 9, .inl (cZ, 192, .inl rn)), (a 12, .inl (cJ, 4, .inr (.inl dv))), (a 13, .inl (cZ, 4, .inl dn))] := hD
  refine lv_aload_n hx hb dX12_row_11 rfl (lv_at hl 1 rfl) ?_
  refine lv_iconst (v := 0) hx hb dX12_row_12 (by decide) ?_
  refine va_put (D := (dC, dI)) (ci := 13) (v := .int 0) (ty := .int) (C := RX12) (T := TX12) (N := 115) hx hb hts (fun w h => List.mem_cons_of_mem _ (uG_X12 w h)) tyX12 tyX12_ok nmX12 hown hK hP hD hS 0 rfl rfl 110 (by decide) (hts _ (List.mem_cons_of_mem _ kw_1801)) (fun _ h9 => h9) rfl (by decide +kernel) rfl rfl (Nat.le_of_ble_eq_true rfl) dX12_row_13 (fun H locs hP hD hS => ?_)
  have hP : va_P (dC, dI) vwCl [(h0, .inr (13, moF a (upd (upd (upd f 4 (nI k)) 11 0) 110 0) w)), (a 5, .inl (cI, 6, .inl cf)), (a 6, .inl (cZ, 48, .inl rt)), (a 7, .inl (cJ, 48, .inr (.inl ti))), (a 8, .inl (cJ, 192, .inr (.inl rv))), (a 9, .inl (cZ, 192, .inl rn)), (a 12, .inl (cJ, 4, .inr (.inl dv))), (a 13, .inl (cZ, 4, .inl dn))] H := hP
  have hD : va_D A [(h0, .inr (13, moF a (upd (upd (upd f 4 (nI k)) 11 0) 110 0) w)), (a 5, .inl (cI, 6, .inl cf)), (a 6, .inl (cZ, 48, .inl rt)), (a 7, .inl (cJ, 48, .inr (.inl ti))), (a 8, .inl (cJ, 192, .inr (.inl rv))), (a 9, .inl (cZ, 192, .inl rn)), (a 12, .inl (cJ, 4, .inr (.inl dv))), (a 13, .inl (cZ, 4, .inl dn))] := hD
  refine lv_iload_n hx hb dX12_row_16 rfl (lv_at hl 2 rfl) ?_
  refine lv_if_lt (tgt := 39) hx hb dX12_row_17 (by decide) (fun c_1 => ?_) (fun c_1 => ?_)
  · skip
    have c_1 : i < 0 := (nI_ltI (a := i) (b := 0) (by omega) (by omega)).mp c_1
    exact absurd c_1 (by omega)
  · skip
    have c_1 : ¬ (i < 0) := fun h => c_1 ((nI_ltI (a := i) (b := 0) (by omega) (by omega)).mpr h)
    refine lv_iload_n hx hb dX12_row_20 rfl (lv_at hl 2 rfl) ?_
    refine lv_aload_n hx hb dX12_row_21 rfl (lv_at hl 1 rfl) ?_
    refine va_get (D := (dC, dI)) (ci := 13) (v := .int (nI k)) (C := RX12) (T := TX12) (N := 115) hx hb hts (fun w h => List.mem_cons_of_mem _ (uG_X12 w h)) hown hK hP 0 rfl rfl 4 (by decide) (hts _ (List.mem_cons_of_mem _ kw_1695)) (fun _ h9 => h9) rfl dX12_row_22 ?_
    refine lv_icmp_ge (tgt := 39) hx hb dX12_row_25 (by decide) (fun c_2 => ?_) (fun c_2 => ?_)
    · skip
      have c_2 : k ≤ i := (nI_leI (a := k) (b := i) (by omega) (by omega)).mp c_2
      exact absurd c_2 (by omega)
    · skip
      have c_2 : ¬ (k ≤ i) := fun h => c_2 ((nI_leI (a := k) (b := i) (by omega) (by omega)).mpr h)
      refine lv_iload hx hb dX12_row_28 (lv_at hl 0 rfl) ?_
      refine lv_aload_n hx hb dX12_row_30 rfl (lv_at hl 1 rfl) ?_
      refine va_get (D := (dC, dI)) (ci := 13) (v := .ref (a 5)) (C := RX12) (T := TX12) (N := 115) hx hb hts (fun w h => List.mem_cons_of_mem _ (uG_X12 w h)) hown hK hP 0 rfl rfl 5 (by decide) (hts _ (List.mem_cons_of_mem _ kw_1696)) (fun _ h9 => h9) rfl dX12_row_31 ?_
      refine lv_iload_n hx hb dX12_row_34 rfl (lv_at hl 2 rfl) ?_
      refine va_iald hx hb hK hP 1 1 rfl rfl (i := (nI i)) (vp_in_nI (n := i) (N := 6) (by omega) (by omega)) dX12_row_35 ?_
      refine lv_topi (fun x_3 ex_3 => ?_)
      have ex_3 : x_3 = cf i := ex_3.trans (congrArg cf (nI_clamp (n := i) (by omega)))
      have ex_3 : x_3 = nI n1 := ex_3.trans hci
      subst ex_3
      refine lv_icmp_eq (tgt := 41) hx hb dX12_row_36 (by decide) (fun c_4 => ?_) (fun c_4 => ?_)
      · skip
        have c_4 : d = n1 := (nI_eq (a := d) (b := n1) (by omega) (by omega)).mp c_4
        exact absurd c_4 hne
      · skip
        have c_4 : ¬ (d = n1) := fun h => c_4 ((nI_eq (a := d) (b := n1) (by omega) (by omega)).mpr h)
        refine lv_iconst (v := (-1)) hx hb dX12_row_39 (by decide) ?_
        have hP9 := hP.sub (ws' := [(h0, .inr (13, moF a (upd (upd (upd f 4 (nI k)) 11 0) 110 0) w)), (a 5, .inl (cI, 6, .inl cf)), (a 6, .inl (cZ, 48, .inl rt)), (a 7, .inl (cJ, 48, .inr (.inl ti))), (a 8, .inl (cJ, 192, .inr (.inl rv))), (a 9, .inl (cZ, 192, .inl rn)), (a 12, .inl (cJ, 4, .inr (.inl dv))), (a 13, .inl (cZ, 4, .inl dn))]) [0, 1, 2, 3, 4, 5, 6, 7] rfl
        have hD9 := hD.sub (ws' := [(h0, .inr (13, moF a (upd (upd (upd f 4 (nI k)) 11 0) 110 0) w)), (a 5, .inl (cI, 6, .inl cf)), (a 6, .inl (cZ, 48, .inl rt)), (a 7, .inl (cJ, 48, .inr (.inl ti))), (a 8, .inl (cJ, 192, .inr (.inl rv))), (a 9, .inl (cZ, 192, .inl rn)), (a 12, .inl (cJ, 4, .inr (.inl dv))), (a 13, .inl (cZ, 4, .inl dn))]) [0, 1, 2, 3, 4, 5, 6, 7] (by decide) rfl
        have hK9 := hK.sub (tys' := [(cB, .byte), (cI, .int), (cJ, .long), (cZ, .boolean)]) [0, 1, 2, 3] rfl
        exact W.iret (v := (-1)) hx hb hr (fun t_ ht hW => ⟨⟨(-1), (), rfl, rfl, by rw [ht]; exact hP9, va_K.moved hW.alike hK9, hD9⟩, hS.F ht⟩) hS.2.2 dX12_row_40
abbrev cs_t_X12_row_f (cB cI cJ cZ : ClassId) (h0 : Nat) (a : Nat → Nat) (f : Nat → Int32) (w : Int64) (k d : Nat) (cf rt : Nat → Int32) (ti rv dv : Nat → Int64) (rn dn : Nat → Int32) (i n1 : Nat) (x : Int64) : va_W := [(h0, .inr (13, moF a (upd (upd f 4 (nI k)) 11 (nI d)) w)), (a 5, .inl (cI, 6, .inl cf)), (a 6, .inl (cZ, 48, .inl rt)), (a 7, .inl (cJ, 48, .inr (.inl ti))), (a 8, .inl (cJ, 192, .inr (.inl rv))), (a 9, .inl (cZ, 192, .inl rn)), (a 12, .inl (cJ, 4, .inr (.inl dv))), (a 13, .inl (cZ, 4, .inl dn))]
abbrev pc_t_X12_row_f (dC : Nat → ClassId) (dI : Nat → Nat → Nat) (sz : Nat) (cB cI cJ cZ : ClassId) (h0 : Nat) (a : Nat → Nat) (f : Nat → Int32) (w : Int64) (k d : Nat) (cf rt : Nat → Int32) (ti rv dv : Nat → Int64) (rn dn : Nat → Int32) (i n1 : Nat) (x : Int64) : Array Value → State → Prop := va_Pc [.ref h0, .int (nI i), .long x] (fun U => U.heap.size = sz ∧ va_P (dC, dI) vwCl [(h0, .inr (13, moF a (upd (upd f 4 (nI k)) 11 (nI d)) w)), (a 5, .inl (cI, 6, .inl cf)), (a 6, .inl (cZ, 48, .inl rt)), (a 7, .inl (cJ, 48, .inr (.inl ti))), (a 8, .inl (cJ, 192, .inr (.inl rv))), (a 9, .inl (cZ, 192, .inl rn)), (a 12, .inl (cJ, 4, .inr (.inl dv))), (a 13, .inl (cZ, 4, .inl dn))] U.heap ∧ va_K (dC, dI) vwCl [(cB, .byte), (cI, .int), (cJ, .long), (cZ, .boolean)] U ∧ va_D (fun _ => True) [(h0, .inr (13, moF a (upd (upd f 4 (nI k)) 11 (nI d)) w)), (a 5, .inl (cI, 6, .inl cf)), (a 6, .inl (cZ, 48, .inl rt)), (a 7, .inl (cJ, 48, .inr (.inl ti))), (a 8, .inl (cJ, 192, .inr (.inl rv))), (a 9, .inl (cZ, 192, .inl rn)), (a 12, .inl (cJ, 4, .inr (.inl dv))), (a 13, .inl (cZ, 4, .inl dn))])
abbrev qc_t_X12_row_f (dC : Nat → ClassId) (dI : Nat → Nat → Nat) (cB cI cJ cZ : ClassId) (h0 : Nat) (a : Nat → Nat) (f : Nat → Int32) (w : Int64) (k d : Nat) (cf rt : Nat → Int32) (ti rv dv : Nat → Int64) (rn dn : Nat → Int32) (i n1 : Nat) (x : Int64) (A : Nat → Prop) : Array Value → State → Outcome → State → Prop := va_Qi (fun (r : Int32) (u : Unit) => match u with | _ => r = -1) (fun (u : Unit) t_ => match u with | _ => va_P (dC, dI) vwCl [(h0, .inr (13, moF a (upd (upd (upd (upd f 4 (nI k)) 11 (nI d)) 11 0) 110 0) w)), (a 5, .inl (cI, 6, .inl cf)), (a 6, .inl (cZ, 48, .inl rt)), (a 7, .inl (cJ, 48, .inr (.inl ti))), (a 8, .inl (cJ, 192, .inr (.inl rv))), (a 9, .inl (cZ, 192, .inl rn)), (a 12, .inl (cJ, 4, .inr (.inl dv))), (a 13, .inl (cZ, 4, .inl dn))] t_.heap ∧ va_K (dC, dI) vwCl [(cB, .byte), (cI, .int), (cJ, .long), (cZ, .boolean)] t_ ∧ va_D A [(h0, .inr (13, moF a (upd (upd (upd (upd f 4 (nI k)) 11 (nI d)) 11 0) 110 0) w)), (a 5, .inl (cI, 6, .inl cf)), (a 6, .inl (cZ, 48, .inl rt)), (a 7, .inl (cJ, 48, .inr (.inl ti))), (a 8, .inl (cJ, 192, .inr (.inl rv))), (a 9, .inl (cZ, 192, .inl rn)), (a 12, .inl (cJ, 4, .inr (.inl dv))), (a 13, .inl (cZ, 4, .inl dn))]) A
set_option maxHeartbeats 4000000 in
set_option maxRecDepth 100000 in
theorem t_X12_row_f (l : Launch) (dC : Nat → ClassId) (dI : Nat → Nat → Nat) (sz : Nat) (cB cI cJ cZ : ClassId) (h0 : Nat) (a : Nat → Nat) (f : Nat → Int32) (w : Int64) (k d : Nat) (cf rt : Nat → Int32) (ti rv dv : Nat → Int64) (rn dn : Nat → Int32) (i n1 : Nat) (x : Int64) (hk : k ≤ 6) (hi : i < k) (hci : cf i = nI n1) (hn1 : n1 ≤ 4) (hd : d = n1) (hfr : frN rt (8 * i) 8 0 = 8) : Met l yX12_row (wsOf yX12_row cX12_row 8 (some .int)) ({ frames := 1, cells := 0, slots := 0, locals := 60 }) (pc_t_X12_row_f dC dI sz cB cI cJ cZ h0 a f w k d cf rt ti rv dv rn dn i n1 x) (qc_t_X12_row_f dC dI cB cI cJ cZ h0 a f w k d cf rt ti rv dv rn dn i n1 x (va_A (cs_t_X12_row_f cB cI cJ cZ h0 a f w k d cf rt ti rv dv rn dn i n1 x) sz)) 0 0 (va_A (cs_t_X12_row_f cB cI cJ cZ h0 a f w k d cf rt ti rv dv rn dn i n1 x) sz) := by
  refine Met.ofW (cc := cX12_row) (maxL := 8) (ret := (some .int)) (by decide) rfl ?_
  intro p e s m args below meth c s₁ B hml hv
  obtain ⟨rfl, hsz, hP, hK, hD0⟩ := hv
  have hx := B.exec
  have hb := B.bytes
  have hr := B.returns
  have hts := atoms_spec (ws := (wsOf yX12_row cX12_row 8 (some .int))) B.pre
  have hown : s.vm.findClass RX12 = some m.cls := findClass_of_methodNamed B.named
  have hlocks := B.notSynchronized
  subst hsz
  have hD := hD0.self (sz := s.heap.size)
  generalize hAe : va_A (cs_t_X12_row_f cB cI cJ cZ h0 a f w k d cf rt ti rv dv rn dn i n1 x) s.heap.size = A at hD ⊢
  have hA : ∀ q : Nat, s.heap.size ≤ q → A q := fun q h => by rw [← hAe]; exact Or.inr h
  have hS : va_S A s.heap s.heap [] := va_S.rf
  have hP : va_P (dC, dI) vwCl [(h0, .inr (13, moF a (upd (upd f 4 (nI k)) 11 (nI d)) w)), (a 5, .inl (cI, 6, .inl cf)), (a 6, .inl (cZ, 48, .inl rt)), (a 7, .inl (cJ, 48, .inr (.inl ti))), (a 8, .inl (cJ, 192, .inr (.inl rv))), (a 9, .inl (cZ, 192, .inl rn)), (a 12, .inl (cJ, 4, .inr (.inl dv))), (a 13, .inl (cZ, 4, .inl dn))] s.heap := hP
  have hl := lv_entry ([.ref h0, .int (nI i), .long x]) (n := 8) (Nat.le_of_ble_eq_true rfl)
  rw [lg_entry_eq]
  generalize (lg_sl ([.ref h0, .int (nI i), .long x]) ++ List.replicate (8 - (lg_sl ([.ref h0, .int (nI i), .long x])).length) Slot.unset).toArray = ls at hl ⊢
  have hl : lv_has ls 8 [(0, .ref h0), (1, .int (nI i)), (2, .long x)] := hl
  refine lv_aload_n hx hb dX12_row_0 rfl (lv_at hl 0 rfl) ?_
  refine va_get (D := (dC, dI)) (ci := 13) (v := .int (nI d)) (C := RX12) (T := TX12) (N := 115) hx hb hts (fun w h => List.mem_cons_of_mem _ (uG_X12 w h)) hown hK hP 0 rfl rfl 11 (by decide) (hts _ (List.mem_cons_of_mem _ kw_1702)) (fun _ h9 => h9) rfl dX12_row_1 ?_
  refine lv_istore (lv' := [(4, .int (nI d)), (0, .ref h0), (1, .int (nI i)), (2, .long x)]) hx hb dX12_row_4 hl (by decide) rfl (fun ls hl => ?_)
  refine lv_aload_n hx hb dX12_row_6 rfl (lv_at hl 1 rfl) ?_
  refine lv_iconst (v := 0) hx hb dX12_row_7 (by decide) ?_
  refine va_put (D := (dC, dI)) (ci := 13) (v := .int 0) (ty := .int) (C := RX12) (T := TX12) (N := 115) hx hb hts (fun w h => List.mem_cons_of_mem _ (uG_X12 w h)) tyX12 tyX12_ok nmX12 hown hK hP hD hS 0 rfl rfl 11 (by decide) (hts _ (List.mem_cons_of_mem _ kw_1702)) (fun _ h9 => h9) rfl (by decide +kernel) rfl rfl (Nat.le_of_ble_eq_true rfl) dX12_row_8 (fun H locs hP hD hS => ?_)
  have hP : va_P (dC, dI) vwCl [(h0, .inr (13, moF a (upd (upd f 4 (nI k)) 11 0) w)), (a 5, .inl (cI, 6, .inl cf)), (a 6, .inl (cZ, 48, .inl rt)), (a 7, .inl (cJ, 48, .inr (.inl ti))), (a 8, .inl (cJ, 192, .inr (.inl rv))), (a 9, .inl (cZ, 192, .inl rn)), (a 12, .inl (cJ, 4, .inr (.inl dv))), (a 13, .inl (cZ, 4, .inl dn))] H := hP
  have hD : va_D A [(h0, .inr (13, moF a (upd (upd f 4 (nI k)) 11 0) w)), (a 5, .inl (cI, 6, .inl cf)), (a 6, .inl (cZ, 48, .inl rt)), (a 7, .inl (cJ, 48, .inr (.inl ti))), (a 8, .inl (cJ, 192, .inr (.inl rv))), (a 9, .inl (cZ, 192, .inl rn)), (a 12, .inl (cJ, 4, .inr (.inl dv))), (a 13, .inl (cZ, 4, .inl dn))] := hD
  refine lv_aload_n hx hb dX12_row_11 rfl (lv_at hl 1 rfl) ?_
  refine lv_iconst (v := 0) hx hb dX12_row_12 (by decide) ?_
  refine va_put (D := (dC, dI)) (ci := 13) (v := .int 0) (ty := .int) (C := RX12) (T := TX12) (N := 115) hx hb hts (fun w h => List.mem_cons_of_mem _ (uG_X12 w h)) tyX12 tyX12_ok nmX12 hown hK hP hD hS 0 rfl rfl 110 (by decide) (hts _ (List.mem_cons_of_mem _ kw_1801)) (fun _ h9 => h9) rfl (by decide +kernel) rfl rfl (Nat.le_of_ble_eq_true rfl) dX12_row_13 (fun H locs hP hD hS => ?_)
  have hP : va_P (dC, dI) vwCl [(h0, .inr (13, moF a (upd (upd (upd f 4 (nI k)) 11 0) 110 0) w)), (a 5, .inl (cI, 6, .inl cf)), (a 6, .inl (cZ, 48, .inl rt)), (a 7, .inl (cJ, 48, .inr (.inl ti))), (a 8, .inl (cJ, 192, .inr (.inl rv))), (a 9, .inl (cZ, 192, .inl rn)), (a 12, .inl (cJ, 4, .inr (.inl dv))), (a 13, .inl (cZ, 4, .inl dn))] H := hP
  have hD : va_D A [(h0, .inr (13, moF a (upd (upd (upd f 4 (nI k)) 11 0) 110 0) w)), (a 5, .inl (cI, 6, .inl cf)), (a 6, .inl (cZ, 48, .inl rt)), (a 7, .inl (cJ, 48, .inr (.inl ti))), (a 8, .inl (cJ, 192, .inr (.inl rv))), (a 9, .inl (cZ, 192, .inl rn)), (a 12, .inl (cJ, 4, .inr (.inl dv))), (a 13, .inl (cZ, 4, .inl dn))] := hD
  refine lv_iload_n hx hb dX12_row_16 rfl (lv_at hl 2 rfl) ?_
  refine lv_if_lt (tgt := 39) hx hb dX12_row_17 (by decide) (fun c_1 => ?_) (fun c_1 => ?_)
  · skip
    have c_1 : i < 0 := (nI_ltI (a := i) (b := 0) (by omega) (by omega)).mp c_1
    exact absurd c_1 (by omega)
  · skip
    have c_1 : ¬ (i < 0) := fun h => c_1 ((nI_ltI (a := i) (b := 0) (by omega) (by omega)).mpr h)
    refine lv_iload_n hx hb dX12_row_20 rfl (lv_at hl 2 rfl) ?_
    refine lv_aload_n hx hb dX12_row_21 rfl (lv_at hl 1 rfl) ?_
    refine va_get (D := (dC, dI)) (ci := 13) (v := .int (nI k)) (C := RX12) (T := TX12) (N := 115) hx hb hts (fun w h => List.mem_cons_of_mem _ (uG_X12 w h)) hown hK hP 0 rfl rfl 4 (by decide) (hts _ (List.mem_cons_of_mem _ kw_1695)) (fun _ h9 => h9) rfl dX12_row_22 ?_
    refine lv_icmp_ge (tgt := 39) hx hb dX12_row_25 (by decide) (fun c_2 => ?_) (fun c_2 => ?_)
    · skip
      have c_2 : k ≤ i := (nI_leI (a := k) (b := i) (by omega) (by omega)).mp c_2
      exact absurd c_2 (by omega)
    · skip
      have c_2 : ¬ (k ≤ i) := fun h => c_2 ((nI_leI (a := k) (b := i) (by omega) (by omega)).mpr h)
      refine lv_iload hx hb dX12_row_28 (lv_at hl 0 rfl) ?_
      refine lv_aload_n hx hb dX12_row_30 rfl (lv_at hl 1 rfl) ?_
      refine va_get (D := (dC, dI)) (ci := 13) (v := .ref (a 5)) (C := RX12) (T := TX12) (N := 115) hx hb hts (fun w h => List.mem_cons_of_mem _ (uG_X12 w h)) hown hK hP 0 rfl rfl 5 (by decide) (hts _ (List.mem_cons_of_mem _ kw_1696)) (fun _ h9 => h9) rfl dX12_row_31 ?_
      refine lv_iload_n hx hb dX12_row_34 rfl (lv_at hl 2 rfl) ?_
      refine va_iald hx hb hK hP 1 1 rfl rfl (i := (nI i)) (vp_in_nI (n := i) (N := 6) (by omega) (by omega)) dX12_row_35 ?_
      refine lv_topi (fun x_3 ex_3 => ?_)
      have ex_3 : x_3 = cf i := ex_3.trans (congrArg cf (nI_clamp (n := i) (by omega)))
      have ex_3 : x_3 = nI n1 := ex_3.trans hci
      subst ex_3
      refine lv_icmp_eq (tgt := 41) hx hb dX12_row_36 (by decide) (fun c_4 => ?_) (fun c_4 => ?_)
      · skip
        have c_4 : d = n1 := (nI_eq (a := d) (b := n1) (by omega) (by omega)).mp c_4
        refine lv_iconst (v := 0) hx hb dX12_row_41 (by decide) ?_
        refine lv_istore (lv' := [(5, .int 0), (4, .int (nI d)), (0, .ref h0), (1, .int (nI i)), (2, .long x)]) hx hb dX12_row_42 hl (by decide) rfl (fun ls hl => ?_)
        have lp_44 : ∀ (n_ : Nat) (p1 : Nat), p1 ≤ 8 → frN rt (8 * i) 8 0 = frN rt (8 * i) (8 - p1) p1 → 8 - p1 < n_ → ∀ (H : Heap) (locs : List Loc) (ls : Array Slot), va_P (dC, dI) vwCl [(h0, .inr (13, moF a (upd (upd (upd f 4 (nI k)) 11 0) 110 0) w)), (a 5, .inl (cI, 6, .inl cf)), (a 6, .inl (cZ, 48, .inl rt)), (a 7, .inl (cJ, 48, .inr (.inl ti))), (a 8, .inl (cJ, 192, .inr (.inl rv))), (a 9, .inl (cZ, 192, .inl rn)), (a 12, .inl (cJ, 4, .inr (.inl dv))), (a 13, .inl (cZ, 4, .inl dn))] H → va_D A [(h0, .inr (13, moF a (upd (upd (upd f 4 (nI k)) 11 0) 110 0) w)), (a 5, .inl (cI, 6, .inl cf)), (a 6, .inl (cZ, 48, .inl rt)), (a 7, .inl (cJ, 48, .inr (.inl ti))), (a 8, .inl (cJ, 192, .inr (.inl rv))), (a 9, .inl (cZ, 192, .inl rn)), (a 12, .inl (cJ, 4, .inr (.inl dv))), (a 13, .inl (cZ, 4, .inl dn))] → va_S A s.heap H locs → lv_has ls 8 [(5, .int (nI p1)), (4, .int (nI d)), (0, .ref h0), (1, .int (nI i)), (2, .long x)] → W p l e (headSpec (wsOf yX12_row cX12_row 8 (some .int)) ({ frames := 1, cells := 0, slots := 0, locals := 60 })).room s m ([.ref h0, .int (nI i), .long x] : List Value).toArray below meth c H locs 0 0 (MQ below (qc_t_X12_row_f dC dI cB cI cJ cZ h0 a f w k d cf rt ti rv dv rn dn i n1 x A) ([.ref h0, .int (nI i), .long x] : List Value).toArray s 0 0 A) (F0 m 44 ls []) := by
          intro n_
          induction n_ with
          | zero => intro p1 hp1 hfr1 hm; exact absurd hm (Nat.not_lt_zero _)
          | succ n_ ih_44 =>
            intro p1 hp1 hfr1 hm H locs ls hP hD hS hl
            refine lv_iload hx hb dX12_row_44 (lv_at hl 0 rfl) ?_
            refine lv_bipush (v := 8) hx hb dX12_row_46 (by decide) ?_
            refine lv_icmp_ge (tgt := 72) hx hb dX12_row_48 (by decide) (fun c_5 => ?_) (fun c_5 => ?_)
            · skip
              have c_5 : 8 ≤ p1 := (nI_leI (a := 8) (b := p1) (by omega) (by omega)).mp c_5
              have hp8 : p1 = 8 := by omega
              refine lv_iload hx hb dX12_row_72 (lv_at hl 0 rfl) ?_
              refine lv_bipush (v := 8) hx hb dX12_row_74 (by decide) ?_
              refine lv_icmp_ne (tgt := 81) hx hb dX12_row_76 (by decide) (fun c_6 => ?_) (fun c_6 => ?_)
              · skip
                have c_6 : ¬ (p1 = 8) := fun h => c_6 ((nI_eq (a := p1) (b := 8) (by omega) (by omega)).mpr h)
                exact absurd hp8 c_6
              · skip
                have c_6 : p1 = 8 := (nI_eq (a := p1) (b := 8) (by omega) (by omega)).mp c_6
                refine lv_iconst (v := (-1)) hx hb dX12_row_79 (by decide) ?_
                have hP9 := hP.sub (ws' := [(h0, .inr (13, moF a (upd (upd (upd f 4 (nI k)) 11 0) 110 0) w)), (a 5, .inl (cI, 6, .inl cf)), (a 6, .inl (cZ, 48, .inl rt)), (a 7, .inl (cJ, 48, .inr (.inl ti))), (a 8, .inl (cJ, 192, .inr (.inl rv))), (a 9, .inl (cZ, 192, .inl rn)), (a 12, .inl (cJ, 4, .inr (.inl dv))), (a 13, .inl (cZ, 4, .inl dn))]) [0, 1, 2, 3, 4, 5, 6, 7] rfl
                have hD9 := hD.sub (ws' := [(h0, .inr (13, moF a (upd (upd (upd f 4 (nI k)) 11 0) 110 0) w)), (a 5, .inl (cI, 6, .inl cf)), (a 6, .inl (cZ, 48, .inl rt)), (a 7, .inl (cJ, 48, .inr (.inl ti))), (a 8, .inl (cJ, 192, .inr (.inl rv))), (a 9, .inl (cZ, 192, .inl rn)), (a 12, .inl (cJ, 4, .inr (.inl dv))), (a 13, .inl (cZ, 4, .inl dn))]) [0, 1, 2, 3, 4, 5, 6, 7] (by decide) rfl
                have hK9 := hK.sub (tys' := [(cB, .byte), (cI, .int), (cJ, .long), (cZ, .boolean)]) [0, 1, 2, 3] rfl
                exact W.iret (v := (-1)) hx hb hr (fun t_ ht hW => ⟨⟨(-1), (), rfl, rfl, by rw [ht]; exact hP9, va_K.moved hW.alike hK9, hD9⟩, hS.F ht⟩) hS.2.2 dX12_row_80
            · skip
              have c_5 : ¬ (8 ≤ p1) := fun h => c_5 ((nI_leI (a := 8) (b := p1) (by omega) (by omega)).mpr h)
              refine lv_aload_n hx hb dX12_row_51 rfl (lv_at hl 2 rfl) ?_
              refine va_get (D := (dC, dI)) (ci := 13) (v := .ref (a 6)) (C := RX12) (T := TX12) (N := 115) hx hb hts (fun w h => List.mem_cons_of_mem _ (uG_X12 w h)) hown hK hP 0 rfl rfl 6 (by decide) (hts _ (List.mem_cons_of_mem _ kw_1697)) (fun _ h9 => h9) rfl dX12_row_52 ?_
              refine lv_bipush (v := 8) hx hb dX12_row_55 (by decide) ?_
              refine lv_iload_n hx hb dX12_row_57 rfl (lv_at hl 3 rfl) ?_
              refine lv_imul hx hb dX12_row_58 ?_
              refine lv_topi (fun x_7 ex_7 => ?_)
              have ex_7 : x_7 = nI (8 * i) := ex_7.trans (pk_mul 8 i)
              subst ex_7
              refine lv_iload hx hb dX12_row_59 (lv_at hl 0 rfl) ?_
              refine lv_iadd hx hb dX12_row_61 ?_
              refine lv_topi (fun x_8 ex_8 => ?_)
              have ex_8 : x_8 = nI (8 * i + p1) := ex_8.trans (nI_add (8 * i) p1)
              subst ex_8
              refine va_zald hx hb hK hP 2 3 rfl rfl (i := (nI (8 * i + p1))) (vp_in_nI (n := 8 * i + p1) (N := 48) (by omega) (by omega)) dX12_row_62 ?_
              refine lv_topi (fun x_9 ex_9 => ?_)
              have ex_9 : x_9 = rt (8 * i + p1) := ex_9.trans (congrArg rt (nI_clamp (n := 8 * i + p1) (by omega)))
              subst ex_9
              refine lv_if_eq (tgt := 72) hx hb dX12_row_63 (by decide) (fun c_10 => ?_) (fun c_10 => ?_)
              · skip
                exact absurd ((hfr1.trans (frN_y (by omega) c_10)).symm.trans hfr) (by omega)
              · skip
                refine lv_iinc (v := nI (p1 + 1)) (lv' := [(5, .int (nI (p1 + 1))), (4, .int (nI d)), (0, .ref h0), (1, .int (nI i)), (2, .long x)]) hx hb dX12_row_66 hl (k := 0) rfl (nI_add p1 1) (by decide) rfl (fun ls hl => ?_)
                refine lv_goto (tgt := 44) hx hb dX12_row_69 (by decide) ?_
                exact ih_44 (p1 + 1) (by omega) (hfr1.trans (frN_n (by omega) c_10)) (by omega) _ _ _ (hP.sub [0, 1, 2, 3, 4, 5, 6, 7] rfl) (hD.sub [0, 1, 2, 3, 4, 5, 6, 7] (by decide) rfl) hS (lv_sub hl [0, 1, 2, 3, 4] rfl)
        exact lp_44 _ 0 (Nat.zero_le _) rfl (Nat.lt_succ_self _) _ _ _ (hP.sub [0, 1, 2, 3, 4, 5, 6, 7] rfl) (hD.sub [0, 1, 2, 3, 4, 5, 6, 7] (by decide) rfl) hS (lv_sub hl [0, 1, 2, 3, 4] rfl)
      · skip
        have c_4 : ¬ (d = n1) := fun h => c_4 ((nI_eq (a := d) (b := n1) (by omega) (by omega)).mpr h)
        exact absurd hd c_4
abbrev cs_t_X12_row_d (cB cI cJ cZ : ClassId) (h0 : Nat) (a : Nat → Nat) (f : Nat → Int32) (w : Int64) (k d : Nat) (cf rt : Nat → Int32) (ti rv dv : Nat → Int64) (rn dn : Nat → Int32) (i n1 q : Nat) (x : Int64) : va_W := [(h0, .inr (13, moF a (upd (upd f 4 (nI k)) 11 (nI d)) w)), (a 5, .inl (cI, 6, .inl cf)), (a 6, .inl (cZ, 48, .inl rt)), (a 7, .inl (cJ, 48, .inr (.inl ti))), (a 8, .inl (cJ, 192, .inr (.inl rv))), (a 9, .inl (cZ, 192, .inl rn)), (a 12, .inl (cJ, 4, .inr (.inl dv))), (a 13, .inl (cZ, 4, .inl dn))]
abbrev pc_t_X12_row_d (dC : Nat → ClassId) (dI : Nat → Nat → Nat) (sz : Nat) (cB cI cJ cZ : ClassId) (h0 : Nat) (a : Nat → Nat) (f : Nat → Int32) (w : Int64) (k d : Nat) (cf rt : Nat → Int32) (ti rv dv : Nat → Int64) (rn dn : Nat → Int32) (i n1 q : Nat) (x : Int64) : Array Value → State → Prop := va_Pc [.ref h0, .int (nI i), .long x] (fun U => U.heap.size = sz ∧ va_P (dC, dI) vwCl [(h0, .inr (13, moF a (upd (upd f 4 (nI k)) 11 (nI d)) w)), (a 5, .inl (cI, 6, .inl cf)), (a 6, .inl (cZ, 48, .inl rt)), (a 7, .inl (cJ, 48, .inr (.inl ti))), (a 8, .inl (cJ, 192, .inr (.inl rv))), (a 9, .inl (cZ, 192, .inl rn)), (a 12, .inl (cJ, 4, .inr (.inl dv))), (a 13, .inl (cZ, 4, .inl dn))] U.heap ∧ va_K (dC, dI) vwCl [(cB, .byte), (cI, .int), (cJ, .long), (cZ, .boolean)] U ∧ va_D (fun _ => True) [(h0, .inr (13, moF a (upd (upd f 4 (nI k)) 11 (nI d)) w)), (a 5, .inl (cI, 6, .inl cf)), (a 6, .inl (cZ, 48, .inl rt)), (a 7, .inl (cJ, 48, .inr (.inl ti))), (a 8, .inl (cJ, 192, .inr (.inl rv))), (a 9, .inl (cZ, 192, .inl rn)), (a 12, .inl (cJ, 4, .inr (.inl dv))), (a 13, .inl (cZ, 4, .inl dn))])
abbrev qc_t_X12_row_d (dC : Nat → ClassId) (dI : Nat → Nat → Nat) (cB cI cJ cZ : ClassId) (h0 : Nat) (a : Nat → Nat) (f : Nat → Int32) (w : Int64) (k d : Nat) (cf rt : Nat → Int32) (ti rv dv : Nat → Int64) (rn dn : Nat → Int32) (i n1 q : Nat) (x : Int64) (A : Nat → Prop) : Array Value → State → Outcome → State → Prop := va_Qi (fun (r : Int32) (u : Unit) => match u with | _ => r = nI q) (fun (u : Unit) t_ => match u with | _ => va_P (dC, dI) vwCl [(h0, .inr (13, moF a (upd (upd (upd (upd f 4 (nI k)) 11 (nI d)) 11 0) 110 0) w)), (a 5, .inl (cI, 6, .inl cf)), (a 6, .inl (cZ, 48, .inl (upd rt (8 * i + q) (vp_nar .boolean 1)))), (a 7, .inl (cJ, 48, .inr (.inl (vp_updL ti (8 * i + q) x)))), (a 8, .inl (cJ, 192, .inr (.inl (rvF dv rv (4 * (8 * i + q)) d)))), (a 9, .inl (cZ, 192, .inl (rnF dn rn (4 * (8 * i + q)) d))), (a 12, .inl (cJ, 4, .inr (.inl dv))), (a 13, .inl (cZ, 4, .inl dn))] t_.heap ∧ va_K (dC, dI) vwCl [(cB, .byte), (cI, .int), (cJ, .long), (cZ, .boolean)] t_ ∧ va_D A [(h0, .inr (13, moF a (upd (upd (upd (upd f 4 (nI k)) 11 (nI d)) 11 0) 110 0) w)), (a 5, .inl (cI, 6, .inl cf)), (a 6, .inl (cZ, 48, .inl (upd rt (8 * i + q) (vp_nar .boolean 1)))), (a 7, .inl (cJ, 48, .inr (.inl (vp_updL ti (8 * i + q) x)))), (a 8, .inl (cJ, 192, .inr (.inl (rvF dv rv (4 * (8 * i + q)) d)))), (a 9, .inl (cZ, 192, .inl (rnF dn rn (4 * (8 * i + q)) d))), (a 12, .inl (cJ, 4, .inr (.inl dv))), (a 13, .inl (cZ, 4, .inl dn))]) A
set_option maxHeartbeats 4000000 in
set_option maxRecDepth 100000 in
theorem t_X12_row_d (l : Launch) (dC : Nat → ClassId) (dI : Nat → Nat → Nat) (sz : Nat) (cB cI cJ cZ : ClassId) (h0 : Nat) (a : Nat → Nat) (f : Nat → Int32) (w : Int64) (k d : Nat) (cf rt : Nat → Int32) (ti rv dv : Nat → Int64) (rn dn : Nat → Int32) (i n1 q : Nat) (x : Int64) (hhq : f 81 = 0) (hk : k ≤ 6) (hi : i < k) (hci : cf i = nI n1) (hn1 : n1 ≤ 4) (hd : d = n1) (hq : q < 8) (hfr : frN rt (8 * i) 8 0 = q) : Met l yX12_row (wsOf yX12_row cX12_row 8 (some .int)) ({ frames := 1, cells := 0, slots := 0, locals := 60 }) (pc_t_X12_row_d dC dI sz cB cI cJ cZ h0 a f w k d cf rt ti rv dv rn dn i n1 q x) (qc_t_X12_row_d dC dI cB cI cJ cZ h0 a f w k d cf rt ti rv dv rn dn i n1 q x (va_A (cs_t_X12_row_d cB cI cJ cZ h0 a f w k d cf rt ti rv dv rn dn i n1 q x) sz)) 0 0 (va_A (cs_t_X12_row_d cB cI cJ cZ h0 a f w k d cf rt ti rv dv rn dn i n1 q x) sz) := by
  refine Met.ofW (cc := cX12_row) (maxL := 8) (ret := (some .int)) (by decide) rfl ?_
  intro p e s m args below meth c s₁ B hml hv
  obtain ⟨rfl, hsz, hP, hK, hD0⟩ := hv
  have hx := B.exec
  have hb := B.bytes
  have hr := B.returns
  have hts := atoms_spec (ws := (wsOf yX12_row cX12_row 8 (some .int))) B.pre
  have hown : s.vm.findClass RX12 = some m.cls := findClass_of_methodNamed B.named
  have hlocks := B.notSynchronized
  subst hsz
  have hD := hD0.self (sz := s.heap.size)
  generalize hAe : va_A (cs_t_X12_row_d cB cI cJ cZ h0 a f w k d cf rt ti rv dv rn dn i n1 q x) s.heap.size = A at hD ⊢
  have hA : ∀ q : Nat, s.heap.size ≤ q → A q := fun q h => by rw [← hAe]; exact Or.inr h
  have hS : va_S A s.heap s.heap [] := va_S.rf
  have hP : va_P (dC, dI) vwCl [(h0, .inr (13, moF a (upd (upd f 4 (nI k)) 11 (nI d)) w)), (a 5, .inl (cI, 6, .inl cf)), (a 6, .inl (cZ, 48, .inl rt)), (a 7, .inl (cJ, 48, .inr (.inl ti))), (a 8, .inl (cJ, 192, .inr (.inl rv))), (a 9, .inl (cZ, 192, .inl rn)), (a 12, .inl (cJ, 4, .inr (.inl dv))), (a 13, .inl (cZ, 4, .inl dn))] s.heap := hP
  have hl := lv_entry ([.ref h0, .int (nI i), .long x]) (n := 8) (Nat.le_of_ble_eq_true rfl)
  rw [lg_entry_eq]
  generalize (lg_sl ([.ref h0, .int (nI i), .long x]) ++ List.replicate (8 - (lg_sl ([.ref h0, .int (nI i), .long x])).length) Slot.unset).toArray = ls at hl ⊢
  have hl : lv_has ls 8 [(0, .ref h0), (1, .int (nI i)), (2, .long x)] := hl
  refine lv_aload_n hx hb dX12_row_0 rfl (lv_at hl 0 rfl) ?_
  refine va_get (D := (dC, dI)) (ci := 13) (v := .int (nI d)) (C := RX12) (T := TX12) (N := 115) hx hb hts (fun w h => List.mem_cons_of_mem _ (uG_X12 w h)) hown hK hP 0 rfl rfl 11 (by decide) (hts _ (List.mem_cons_of_mem _ kw_1702)) (fun _ h9 => h9) rfl dX12_row_1 ?_
  refine lv_istore (lv' := [(4, .int (nI d)), (0, .ref h0), (1, .int (nI i)), (2, .long x)]) hx hb dX12_row_4 hl (by decide) rfl (fun ls hl => ?_)
  refine lv_aload_n hx hb dX12_row_6 rfl (lv_at hl 1 rfl) ?_
  refine lv_iconst (v := 0) hx hb dX12_row_7 (by decide) ?_
  refine va_put (D := (dC, dI)) (ci := 13) (v := .int 0) (ty := .int) (C := RX12) (T := TX12) (N := 115) hx hb hts (fun w h => List.mem_cons_of_mem _ (uG_X12 w h)) tyX12 tyX12_ok nmX12 hown hK hP hD hS 0 rfl rfl 11 (by decide) (hts _ (List.mem_cons_of_mem _ kw_1702)) (fun _ h9 => h9) rfl (by decide +kernel) rfl rfl (Nat.le_of_ble_eq_true rfl) dX12_row_8 (fun H locs hP hD hS => ?_)
  have hP : va_P (dC, dI) vwCl [(h0, .inr (13, moF a (upd (upd f 4 (nI k)) 11 0) w)), (a 5, .inl (cI, 6, .inl cf)), (a 6, .inl (cZ, 48, .inl rt)), (a 7, .inl (cJ, 48, .inr (.inl ti))), (a 8, .inl (cJ, 192, .inr (.inl rv))), (a 9, .inl (cZ, 192, .inl rn)), (a 12, .inl (cJ, 4, .inr (.inl dv))), (a 13, .inl (cZ, 4, .inl dn))] H := hP
  have hD : va_D A [(h0, .inr (13, moF a (upd (upd f 4 (nI k)) 11 0) w)), (a 5, .inl (cI, 6, .inl cf)), (a 6, .inl (cZ, 48, .inl rt)), (a 7, .inl (cJ, 48, .inr (.inl ti))), (a 8, .inl (cJ, 192, .inr (.inl rv))), (a 9, .inl (cZ, 192, .inl rn)), (a 12, .inl (cJ, 4, .inr (.inl dv))), (a 13, .inl (cZ, 4, .inl dn))] := hD
  refine lv_aload_n hx hb dX12_row_11 rfl (lv_at hl 1 rfl) ?_
  refine lv_iconst (v := 0) hx hb dX12_row_12 (by decide) ?_
  refine va_put (D := (dC, dI)) (ci := 13) (v := .int 0) (ty := .int) (C := RX12) (T := TX12) (N := 115) hx hb hts (fun w h => List.mem_cons_of_mem _ (uG_X12 w h)) tyX12 tyX12_ok nmX12 hown hK hP hD hS 0 rfl rfl 110 (by decide) (hts _ (List.mem_cons_of_mem _ kw_1801)) (fun _ h9 => h9) rfl (by decide +kernel) rfl rfl (Nat.le_of_ble_eq_true rfl) dX12_row_13 (fun H locs hP hD hS => ?_)
  have hP : va_P (dC, dI) vwCl [(h0, .inr (13, moF a (upd (upd (upd f 4 (nI k)) 11 0) 110 0) w)), (a 5, .inl (cI, 6, .inl cf)), (a 6, .inl (cZ, 48, .inl rt)), (a 7, .inl (cJ, 48, .inr (.inl ti))), (a 8, .inl (cJ, 192, .inr (.inl rv))), (a 9, .inl (cZ, 192, .inl rn)), (a 12, .inl (cJ, 4, .inr (.inl dv))), (a 13, .inl (cZ, 4, .inl dn))] H := hP
  have hD : va_D A [(h0, .inr (13, moF a (upd (upd (upd f 4 (nI k)) 11 0) 110 0) w)), (a 5, .inl (cI, 6, .inl cf)), (a 6, .inl (cZ, 48, .inl rt)), (a 7, .inl (cJ, 48, .inr (.inl ti))), (a 8, .inl (cJ, 192, .inr (.inl rv))), (a 9, .inl (cZ, 192, .inl rn)), (a 12, .inl (cJ, 4, .inr (.inl dv))), (a 13, .inl (cZ, 4, .inl dn))] := hD
  refine lv_iload_n hx hb dX12_row_16 rfl (lv_at hl 2 rfl) ?_
  refine lv_if_lt (tgt := 39) hx hb dX12_row_17 (by decide) (fun c_1 => ?_) (fun c_1 => ?_)
  · skip
    have c_1 : i < 0 := (nI_ltI (a := i) (b := 0) (by omega) (by omega)).mp c_1
    exact absurd c_1 (by omega)
  · skip
    have c_1 : ¬ (i < 0) := fun h => c_1 ((nI_ltI (a := i) (b := 0) (by omega) (by omega)).mpr h)
    refine lv_iload_n hx hb dX12_row_20 rfl (lv_at hl 2 rfl) ?_
    refine lv_aload_n hx hb dX12_row_21 rfl (lv_at hl 1 rfl) ?_
    refine va_get (D := (dC, dI)) (ci := 13) (v := .int (nI k)) (C := RX12) (T := TX12) (N := 115) hx hb hts (fun w h => List.mem_cons_of_mem _ (uG_X12 w h)) hown hK hP 0 rfl rfl 4 (by decide) (hts _ (List.mem_cons_of_mem _ kw_1695)) (fun _ h9 => h9) rfl dX12_row_22 ?_
    refine lv_icmp_ge (tgt := 39) hx hb dX12_row_25 (by decide) (fun c_2 => ?_) (fun c_2 => ?_)
    · skip
      have c_2 : k ≤ i := (nI_leI (a := k) (b := i) (by omega) (by omega)).mp c_2
      exact absurd c_2 (by omega)
    · skip
      have c_2 : ¬ (k ≤ i) := fun h => c_2 ((nI_leI (a := k) (b := i) (by omega) (by omega)).mpr h)
      refine lv_iload hx hb dX12_row_28 (lv_at hl 0 rfl) ?_
      refine lv_aload_n hx hb dX12_row_30 rfl (lv_at hl 1 rfl) ?_
      refine va_get (D := (dC, dI)) (ci := 13) (v := .ref (a 5)) (C := RX12) (T := TX12) (N := 115) hx hb hts (fun w h => List.mem_cons_of_mem _ (uG_X12 w h)) hown hK hP 0 rfl rfl 5 (by decide) (hts _ (List.mem_cons_of_mem _ kw_1696)) (fun _ h9 => h9) rfl dX12_row_31 ?_
      refine lv_iload_n hx hb dX12_row_34 rfl (lv_at hl 2 rfl) ?_
      refine va_iald hx hb hK hP 1 1 rfl rfl (i := (nI i)) (vp_in_nI (n := i) (N := 6) (by omega) (by omega)) dX12_row_35 ?_
      refine lv_topi (fun x_3 ex_3 => ?_)
      have ex_3 : x_3 = cf i := ex_3.trans (congrArg cf (nI_clamp (n := i) (by omega)))
      have ex_3 : x_3 = nI n1 := ex_3.trans hci
      subst ex_3
      refine lv_icmp_eq (tgt := 41) hx hb dX12_row_36 (by decide) (fun c_4 => ?_) (fun c_4 => ?_)
      · skip
        have c_4 : d = n1 := (nI_eq (a := d) (b := n1) (by omega) (by omega)).mp c_4
        refine lv_iconst (v := 0) hx hb dX12_row_41 (by decide) ?_
        refine lv_istore (lv' := [(5, .int 0), (4, .int (nI d)), (0, .ref h0), (1, .int (nI i)), (2, .long x)]) hx hb dX12_row_42 hl (by decide) rfl (fun ls hl => ?_)
        have lp_44 : ∀ (n_ : Nat) (p1 : Nat), p1 ≤ 8 → frN rt (8 * i) 8 0 = frN rt (8 * i) (8 - p1) p1 → 8 - p1 < n_ → ∀ (H : Heap) (locs : List Loc) (ls : Array Slot), va_P (dC, dI) vwCl [(h0, .inr (13, moF a (upd (upd (upd f 4 (nI k)) 11 0) 110 0) w)), (a 5, .inl (cI, 6, .inl cf)), (a 6, .inl (cZ, 48, .inl rt)), (a 7, .inl (cJ, 48, .inr (.inl ti))), (a 8, .inl (cJ, 192, .inr (.inl rv))), (a 9, .inl (cZ, 192, .inl rn)), (a 12, .inl (cJ, 4, .inr (.inl dv))), (a 13, .inl (cZ, 4, .inl dn))] H → va_D A [(h0, .inr (13, moF a (upd (upd (upd f 4 (nI k)) 11 0) 110 0) w)), (a 5, .inl (cI, 6, .inl cf)), (a 6, .inl (cZ, 48, .inl rt)), (a 7, .inl (cJ, 48, .inr (.inl ti))), (a 8, .inl (cJ, 192, .inr (.inl rv))), (a 9, .inl (cZ, 192, .inl rn)), (a 12, .inl (cJ, 4, .inr (.inl dv))), (a 13, .inl (cZ, 4, .inl dn))] → va_S A s.heap H locs → lv_has ls 8 [(5, .int (nI p1)), (4, .int (nI d)), (0, .ref h0), (1, .int (nI i)), (2, .long x)] → W p l e (headSpec (wsOf yX12_row cX12_row 8 (some .int)) ({ frames := 1, cells := 0, slots := 0, locals := 60 })).room s m ([.ref h0, .int (nI i), .long x] : List Value).toArray below meth c H locs 0 0 (MQ below (qc_t_X12_row_d dC dI cB cI cJ cZ h0 a f w k d cf rt ti rv dv rn dn i n1 q x A) ([.ref h0, .int (nI i), .long x] : List Value).toArray s 0 0 A) (F0 m 44 ls []) := by
          intro n_
          induction n_ with
          | zero => intro p1 hp1 hfr1 hm; exact absurd hm (Nat.not_lt_zero _)
          | succ n_ ih_44 =>
            intro p1 hp1 hfr1 hm H locs ls hP hD hS hl
            refine lv_iload hx hb dX12_row_44 (lv_at hl 0 rfl) ?_
            refine lv_bipush (v := 8) hx hb dX12_row_46 (by decide) ?_
            refine lv_icmp_ge (tgt := 72) hx hb dX12_row_48 (by decide) (fun c_5 => ?_) (fun c_5 => ?_)
            · skip
              have c_5 : 8 ≤ p1 := (nI_leI (a := 8) (b := p1) (by omega) (by omega)).mp c_5
              exact absurd ((show frN rt (8 * i) 8 0 = 8 from hfr1.trans (by rw [show p1 = 8 by omega]; rfl)).symm.trans hfr) (by omega)
            · skip
              have c_5 : ¬ (8 ≤ p1) := fun h => c_5 ((nI_leI (a := 8) (b := p1) (by omega) (by omega)).mpr h)
              refine lv_aload_n hx hb dX12_row_51 rfl (lv_at hl 2 rfl) ?_
              refine va_get (D := (dC, dI)) (ci := 13) (v := .ref (a 6)) (C := RX12) (T := TX12) (N := 115) hx hb hts (fun w h => List.mem_cons_of_mem _ (uG_X12 w h)) hown hK hP 0 rfl rfl 6 (by decide) (hts _ (List.mem_cons_of_mem _ kw_1697)) (fun _ h9 => h9) rfl dX12_row_52 ?_
              refine lv_bipush (v := 8) hx hb dX12_row_55 (by decide) ?_
              refine lv_iload_n hx hb dX12_row_57 rfl (lv_at hl 3 rfl) ?_
              refine lv_imul hx hb dX12_row_58 ?_
              refine lv_topi (fun x_6 ex_6 => ?_)
              have ex_6 : x_6 = nI (8 * i) := ex_6.trans (pk_mul 8 i)
              subst ex_6
              refine lv_iload hx hb dX12_row_59 (lv_at hl 0 rfl) ?_
              refine lv_iadd hx hb dX12_row_61 ?_
              refine lv_topi (fun x_7 ex_7 => ?_)
              have ex_7 : x_7 = nI (8 * i + p1) := ex_7.trans (nI_add (8 * i) p1)
              subst ex_7
              refine va_zald hx hb hK hP 2 3 rfl rfl (i := (nI (8 * i + p1))) (vp_in_nI (n := 8 * i + p1) (N := 48) (by omega) (by omega)) dX12_row_62 ?_
              refine lv_topi (fun x_8 ex_8 => ?_)
              have ex_8 : x_8 = rt (8 * i + p1) := ex_8.trans (congrArg rt (nI_clamp (n := 8 * i + p1) (by omega)))
              subst ex_8
              refine lv_if_eq (tgt := 72) hx hb dX12_row_63 (by decide) (fun c_9 => ?_) (fun c_9 => ?_)
              · skip
                have epq : p1 = q := (hfr1.trans (frN_y (by omega) c_9)).symm.trans hfr
                rw [epq] at hl
                have hl : lv_has ls 8 [(5, .int (nI q)), (4, .int (nI d)), (0, .ref h0), (1, .int (nI i)), (2, .long x)] := hl
                refine lv_iload hx hb dX12_row_72 (lv_at hl 0 rfl) ?_
                refine lv_bipush (v := 8) hx hb dX12_row_74 (by decide) ?_
                refine lv_icmp_ne (tgt := 81) hx hb dX12_row_76 (by decide) (fun c_10 => ?_) (fun c_10 => ?_)
                · skip
                  have c_10 : ¬ (q = 8) := fun h => c_10 ((nI_eq (a := q) (b := 8) (by omega) (by omega)).mpr h)
                  refine lv_bipush (v := 8) hx hb dX12_row_81 (by decide) ?_
                  refine lv_iload_n hx hb dX12_row_83 rfl (lv_at hl 3 rfl) ?_
                  refine lv_imul hx hb dX12_row_84 ?_
                  refine lv_topi (fun x_11 ex_11 => ?_)
                  have ex_11 : x_11 = nI (8 * i) := ex_11.trans (pk_mul 8 i)
                  subst ex_11
                  refine lv_iload hx hb dX12_row_85 (lv_at hl 0 rfl) ?_
                  refine lv_iadd hx hb dX12_row_87 ?_
                  refine lv_topi (fun x_12 ex_12 => ?_)
                  have ex_12 : x_12 = nI (8 * i + q) := ex_12.trans (nI_add (8 * i) q)
                  subst ex_12
                  refine lv_istore (lv' := [(6, .int (nI (8 * i + q))), (5, .int (nI q)), (4, .int (nI d)), (0, .ref h0), (1, .int (nI i)), (2, .long x)]) hx hb dX12_row_88 hl (by decide) rfl (fun ls hl => ?_)
                  refine lv_aload_n hx hb dX12_row_90 rfl (lv_at hl 3 rfl) ?_
                  refine va_get (D := (dC, dI)) (ci := 13) (v := .ref (a 6)) (C := RX12) (T := TX12) (N := 115) hx hb hts (fun w h => List.mem_cons_of_mem _ (uG_X12 w h)) hown hK hP 0 rfl rfl 6 (by decide) (hts _ (List.mem_cons_of_mem _ kw_1697)) (fun _ h9 => h9) rfl dX12_row_91 ?_
                  refine lv_iload hx hb dX12_row_94 (lv_at hl 0 rfl) ?_
                  refine lv_iconst (v := 1) hx hb dX12_row_96 (by decide) ?_
                  refine va_zast hx hb hK hP hD hS 2 3 rfl rfl (i := (nI (8 * i + q))) (x := 1) (vp_in_nI (n := 8 * i + q) (N := 48) (by omega) (by omega)) dX12_row_97 (fun H locs hP hD hS => ?_)
                  rw [show (nI (8 * i + q)).toNatClampNeg = 8 * i + q from nI_clamp (n := 8 * i + q) (by omega)] at hP hD
                  have hP : va_P (dC, dI) vwCl [(h0, .inr (13, moF a (upd (upd (upd f 4 (nI k)) 11 0) 110 0) w)), (a 5, .inl (cI, 6, .inl cf)), (a 6, .inl (cZ, 48, .inl (upd rt (8 * i + q) (vp_nar .boolean 1)))), (a 7, .inl (cJ, 48, .inr (.inl ti))), (a 8, .inl (cJ, 192, .inr (.inl rv))), (a 9, .inl (cZ, 192, .inl rn)), (a 12, .inl (cJ, 4, .inr (.inl dv))), (a 13, .inl (cZ, 4, .inl dn))] H := hP
                  have hD : va_D A [(h0, .inr (13, moF a (upd (upd (upd f 4 (nI k)) 11 0) 110 0) w)), (a 5, .inl (cI, 6, .inl cf)), (a 6, .inl (cZ, 48, .inl (upd rt (8 * i + q) (vp_nar .boolean 1)))), (a 7, .inl (cJ, 48, .inr (.inl ti))), (a 8, .inl (cJ, 192, .inr (.inl rv))), (a 9, .inl (cZ, 192, .inl rn)), (a 12, .inl (cJ, 4, .inr (.inl dv))), (a 13, .inl (cZ, 4, .inl dn))] := hD
                  refine lv_aload_n hx hb dX12_row_98 rfl (lv_at hl 3 rfl) ?_
                  refine va_get (D := (dC, dI)) (ci := 13) (v := .ref (a 7)) (C := RX12) (T := TX12) (N := 115) hx hb hts (fun w h => List.mem_cons_of_mem _ (uG_X12 w h)) hown hK hP 0 rfl rfl 7 (by decide) (hts _ (List.mem_cons_of_mem _ kw_1698)) (fun _ h9 => h9) rfl dX12_row_99 ?_
                  refine lv_iload hx hb dX12_row_102 (lv_at hl 0 rfl) ?_
                  refine lv_lload_n hx hb dX12_row_104 rfl (lv_at hl 5 rfl) ?_
                  refine va_last hx hb hK hP hD hS 3 2 rfl rfl (i := (nI (8 * i + q))) (x := x) (vp_in_nI (n := 8 * i + q) (N := 48) (by omega) (by omega)) dX12_row_105 (fun H locs hP hD hS => ?_)
                  rw [show (nI (8 * i + q)).toNatClampNeg = 8 * i + q from nI_clamp (n := 8 * i + q) (by omega)] at hP hD
                  have hP : va_P (dC, dI) vwCl [(h0, .inr (13, moF a (upd (upd (upd f 4 (nI k)) 11 0) 110 0) w)), (a 5, .inl (cI, 6, .inl cf)), (a 6, .inl (cZ, 48, .inl (upd rt (8 * i + q) (vp_nar .boolean 1)))), (a 7, .inl (cJ, 48, .inr (.inl (vp_updL ti (8 * i + q) x)))), (a 8, .inl (cJ, 192, .inr (.inl rv))), (a 9, .inl (cZ, 192, .inl rn)), (a 12, .inl (cJ, 4, .inr (.inl dv))), (a 13, .inl (cZ, 4, .inl dn))] H := hP
                  have hD : va_D A [(h0, .inr (13, moF a (upd (upd (upd f 4 (nI k)) 11 0) 110 0) w)), (a 5, .inl (cI, 6, .inl cf)), (a 6, .inl (cZ, 48, .inl (upd rt (8 * i + q) (vp_nar .boolean 1)))), (a 7, .inl (cJ, 48, .inr (.inl (vp_updL ti (8 * i + q) x)))), (a 8, .inl (cJ, 192, .inr (.inl rv))), (a 9, .inl (cZ, 192, .inl rn)), (a 12, .inl (cJ, 4, .inr (.inl dv))), (a 13, .inl (cZ, 4, .inl dn))] := hD
                  refine lv_iconst (v := 0) hx hb dX12_row_106 (by decide) ?_
                  refine lv_istore (lv' := [(7, .int 0), (6, .int (nI (8 * i + q))), (5, .int (nI q)), (4, .int (nI d)), (0, .ref h0), (1, .int (nI i)), (2, .long x)]) hx hb dX12_row_107 hl (by decide) rfl (fun ls hl => ?_)
                  have lp_109 : ∀ (n_ : Nat) (c9 : Nat), c9 ≤ d → d - c9 < n_ → ∀ (H : Heap) (locs : List Loc) (ls : Array Slot), va_P (dC, dI) vwCl [(h0, .inr (13, moF a (upd (upd (upd (upd f 4 (nI k)) 11 (nI d)) 11 0) 110 0) w)), (a 5, .inl (cI, 6, .inl cf)), (a 6, .inl (cZ, 48, .inl (upd rt (8 * i + q) (vp_nar .boolean 1)))), (a 7, .inl (cJ, 48, .inr (.inl (vp_updL ti (8 * i + q) x)))), (a 8, .inl (cJ, 192, .inr (.inl (rvF dv rv (4 * (8 * i + q)) c9)))), (a 9, .inl (cZ, 192, .inl (rnF dn rn (4 * (8 * i + q)) c9))), (a 12, .inl (cJ, 4, .inr (.inl dv))), (a 13, .inl (cZ, 4, .inl dn))] H → va_D A [(h0, .inr (13, moF a (upd (upd (upd (upd f 4 (nI k)) 11 (nI d)) 11 0) 110 0) w)), (a 5, .inl (cI, 6, .inl cf)), (a 6, .inl (cZ, 48, .inl (upd rt (8 * i + q) (vp_nar .boolean 1)))), (a 7, .inl (cJ, 48, .inr (.inl (vp_updL ti (8 * i + q) x)))), (a 8, .inl (cJ, 192, .inr (.inl (rvF dv rv (4 * (8 * i + q)) c9)))), (a 9, .inl (cZ, 192, .inl (rnF dn rn (4 * (8 * i + q)) c9))), (a 12, .inl (cJ, 4, .inr (.inl dv))), (a 13, .inl (cZ, 4, .inl dn))] → va_S A s.heap H locs → lv_has ls 8 [(7, .int (nI c9)), (6, .int (nI (8 * i + q))), (5, .int (nI q)), (4, .int (nI d)), (0, .ref h0), (1, .int (nI i)), (2, .long x)] → W p l e (headSpec (wsOf yX12_row cX12_row 8 (some .int)) ({ frames := 1, cells := 0, slots := 0, locals := 60 })).room s m ([.ref h0, .int (nI i), .long x] : List Value).toArray below meth c H locs 0 0 (MQ below (qc_t_X12_row_d dC dI cB cI cJ cZ h0 a f w k d cf rt ti rv dv rn dn i n1 q x A) ([.ref h0, .int (nI i), .long x] : List Value).toArray s 0 0 A) (F0 m 109 ls []) := by
                    intro n_
                    induction n_ with
                    | zero => intro c9 hc9 hm; exact absurd hm (Nat.not_lt_zero _)
                    | succ n_ ih_109 =>
                      intro c9 hc9 hm H locs ls hP hD hS hl
                      refine lv_iload hx hb dX12_row_109 (lv_at hl 0 rfl) ?_
                      refine lv_iload hx hb dX12_row_111 (lv_at hl 3 rfl) ?_
                      refine lv_icmp_ge (tgt := 160) hx hb dX12_row_113 (by decide) (fun c_13 => ?_) (fun c_13 => ?_)
                      · skip
                        have c_13 : d ≤ c9 := (nI_leI (a := d) (b := c9) (by omega) (by omega)).mp c_13
                        have hcd : c9 = d := by omega
                        rw [hcd] at hP hD
                        refine lv_aload_n hx hb dX12_row_160 rfl (lv_at hl 4 rfl) ?_
                        refine lv_iconst (v := 1) hx hb dX12_row_161 (by decide) ?_
                        have hPc := hP.sub (ws' := [(h0, .inr (13, moF a (upd (upd (upd (upd f 4 (nI k)) 11 (nI d)) 11 0) 110 0) w))]) [0] rfl
                        have hDc := hD.sub (ws' := [(h0, .inr (13, moF a (upd (upd (upd (upd f 4 (nI k)) 11 (nI d)) 11 0) 110 0) w))]) [0] (by decide) rfl
                        have hKc := hK.sub (tys' := [(cB, .byte), (cI, .int), (cJ, .long), (cZ, .boolean)]) [0, 1, 2, 3] rfl
                        have hFc := va_free (wc := [(h0, .inr (13, moF a (upd (upd (upd (upd f 4 (nI k)) 11 (nI d)) 11 0) 110 0) w))]) hD hS hA [0] rfl
                        refine va_callv (va_runV (As := [.int 1]) (rest := []) ⟨hx, hb, hml, hown, hts⟩ (t_X12_renew_0 l dC dI H.size cB cI cJ cZ h0 a (upd (upd (upd (upd f 4 (nI k)) 11 (nI d)) 11 0) 110 0) w 1 hhq) (cwV 1 hts (gd_all (in_V kw_2070 kw_2072 kw_99 kw_191 kc_X12_renew)) rfl rfl rfl (by decide +kernel) ⟨Nat.le_of_ble_eq_true rfl, Nat.le_of_ble_eq_true rfl⟩) ⟨fun a U g mk q => by obtain ⟨q0, q1, qP, qK, qD⟩ := q; exact ⟨q0, q1, qP, va_K.moved (u := U) (U := U.calling g mk a) (Vm.Alike.refl U.vm) qK, qD⟩, va_recv hKc hPc (ci := 13) (q0 := 0) rfl rfl, fun U hU hW => ⟨rfl, by rw [hU], by rw [hU]; exact hPc, va_K.moved hW.alike hKc, hDc.weaken (fun _ _ _ _ => trivial)⟩⟩ rfl rfl hl.1 rfl (lv_room (Nat.le_of_ble_eq_true rfl)) dX12_row_162 ⟨Nat.le_of_ble_eq_true rfl, Nat.le_of_ble_eq_true rfl⟩) hS (fun q _ h => hFc q h) hFc (fun u t_ H1 locs ht hvm hw hB hz1 hk1 hS => ?_)
                        obtain ⟨hP1, hK1, hD1⟩ := hB
                        rw [ht] at hP1
                        have hK1 := va_K.moved hvm.symm hK1
                        obtain ⟨hP, hD⟩ := va_join (wr := [(a 5, .inl (cI, 6, .inl cf)), (a 6, .inl (cZ, 48, .inl (upd rt (8 * i + q) (vp_nar .boolean 1)))), (a 7, .inl (cJ, 48, .inr (.inl (vp_updL ti (8 * i + q) x)))), (a 8, .inl (cJ, 192, .inr (.inl (rvF dv rv (4 * (8 * i + q)) d)))), (a 9, .inl (cZ, 192, .inl (rnF dn rn (4 * (8 * i + q)) d))), (a 12, .inl (cJ, 4, .inr (.inl dv))), (a 13, .inl (cZ, 4, .inl dn))]) (w1 := [(h0, .inr (13, moF a (upd (upd (upd (upd f 4 (nI k)) 11 (nI d)) 11 0) 110 0) w))]) hP hD [0] [1, 2, 3, 4, 5, 6, 7] rfl rfl (by decide) (by decide) hk1 hFc hP1 hD1
                        have hK := (hK.sub (tys' := []) [] rfl).app hK1
                        generalize H1 = H at hP hS ⊢
                        have hP : va_P (dC, dI) vwCl [(a 5, .inl (cI, 6, .inl cf)), (a 6, .inl (cZ, 48, .inl (upd rt (8 * i + q) (vp_nar .boolean 1)))), (a 7, .inl (cJ, 48, .inr (.inl (vp_updL ti (8 * i + q) x)))), (a 8, .inl (cJ, 192, .inr (.inl (rvF dv rv (4 * (8 * i + q)) d)))), (a 9, .inl (cZ, 192, .inl (rnF dn rn (4 * (8 * i + q)) d))), (a 12, .inl (cJ, 4, .inr (.inl dv))), (a 13, .inl (cZ, 4, .inl dn)), (h0, .inr (13, moF a (upd (upd (upd (upd f 4 (nI k)) 11 (nI d)) 11 0) 110 0) w))] H := hP
                        have hD : va_D A [(a 5, .inl (cI, 6, .inl cf)), (a 6, .inl (cZ, 48, .inl (upd rt (8 * i + q) (vp_nar .boolean 1)))), (a 7, .inl (cJ, 48, .inr (.inl (vp_updL ti (8 * i + q) x)))), (a 8, .inl (cJ, 192, .inr (.inl (rvF dv rv (4 * (8 * i + q)) d)))), (a 9, .inl (cZ, 192, .inl (rnF dn rn (4 * (8 * i + q)) d))), (a 12, .inl (cJ, 4, .inr (.inl dv))), (a 13, .inl (cZ, 4, .inl dn)), (h0, .inr (13, moF a (upd (upd (upd (upd f 4 (nI k)) 11 (nI d)) 11 0) 110 0) w))] := hD
                        have hK : va_K (dC, dI) vwCl [(cB, .byte), (cI, .int), (cJ, .long), (cZ, .boolean)] s := hK
                        refine lv_iload hx hb dX12_row_165 (lv_at hl 2 rfl) ?_
                        have hP9 := hP.sub (ws' := [(h0, .inr (13, moF a (upd (upd (upd (upd f 4 (nI k)) 11 (nI d)) 11 0) 110 0) w)), (a 5, .inl (cI, 6, .inl cf)), (a 6, .inl (cZ, 48, .inl (upd rt (8 * i + q) (vp_nar .boolean 1)))), (a 7, .inl (cJ, 48, .inr (.inl (vp_updL ti (8 * i + q) x)))), (a 8, .inl (cJ, 192, .inr (.inl (rvF dv rv (4 * (8 * i + q)) d)))), (a 9, .inl (cZ, 192, .inl (rnF dn rn (4 * (8 * i + q)) d))), (a 12, .inl (cJ, 4, .inr (.inl dv))), (a 13, .inl (cZ, 4, .inl dn))]) [7, 0, 1, 2, 3, 4, 5, 6] rfl
                        have hD9 := hD.sub (ws' := [(h0, .inr (13, moF a (upd (upd (upd (upd f 4 (nI k)) 11 (nI d)) 11 0) 110 0) w)), (a 5, .inl (cI, 6, .inl cf)), (a 6, .inl (cZ, 48, .inl (upd rt (8 * i + q) (vp_nar .boolean 1)))), (a 7, .inl (cJ, 48, .inr (.inl (vp_updL ti (8 * i + q) x)))), (a 8, .inl (cJ, 192, .inr (.inl (rvF dv rv (4 * (8 * i + q)) d)))), (a 9, .inl (cZ, 192, .inl (rnF dn rn (4 * (8 * i + q)) d))), (a 12, .inl (cJ, 4, .inr (.inl dv))), (a 13, .inl (cZ, 4, .inl dn))]) [7, 0, 1, 2, 3, 4, 5, 6] (by decide) rfl
                        have hK9 := hK.sub (tys' := [(cB, .byte), (cI, .int), (cJ, .long), (cZ, .boolean)]) [0, 1, 2, 3] rfl
                        exact W.iret (v := (nI q)) hx hb hr (fun t_ ht hW => ⟨⟨(nI q), (), rfl, rfl, by rw [ht]; exact hP9, va_K.moved hW.alike hK9, hD9⟩, hS.F ht⟩) hS.2.2 dX12_row_167
                      · skip
                        have c_13 : ¬ (d ≤ c9) := fun h => c_13 ((nI_leI (a := d) (b := c9) (by omega) (by omega)).mpr h)
                        refine lv_aload_n hx hb dX12_row_116 rfl (lv_at hl 4 rfl) ?_
                        refine va_get (D := (dC, dI)) (ci := 13) (v := .ref (a 8)) (C := RX12) (T := TX12) (N := 115) hx hb hts (fun w h => List.mem_cons_of_mem _ (uG_X12 w h)) hown hK hP 0 rfl rfl 8 (by decide) (hts _ (List.mem_cons_of_mem _ kw_1699)) (fun _ h9 => h9) rfl dX12_row_117 ?_
                        refine lv_iconst (v := 4) hx hb dX12_row_120 (by decide) ?_
                        refine lv_iload hx hb dX12_row_121 (lv_at hl 1 rfl) ?_
                        refine lv_imul hx hb dX12_row_123 ?_
                        refine lv_topi (fun x_15 ex_15 => ?_)
                        have ex_15 : x_15 = nI (4 * (8 * i + q)) := ex_15.trans (pk_mul 4 (8 * i + q))
                        subst ex_15
                        refine lv_iload hx hb dX12_row_124 (lv_at hl 0 rfl) ?_
                        refine lv_iadd hx hb dX12_row_126 ?_
                        refine lv_topi (fun x_16 ex_16 => ?_)
                        have ex_16 : x_16 = nI (4 * (8 * i + q) + c9) := ex_16.trans (nI_add (4 * (8 * i + q)) c9)
                        subst ex_16
                        refine lv_aload_n hx hb dX12_row_127 rfl (lv_at hl 4 rfl) ?_
                        refine va_get (D := (dC, dI)) (ci := 13) (v := .ref (a 12)) (C := RX12) (T := TX12) (N := 115) hx hb hts (fun w h => List.mem_cons_of_mem _ (uG_X12 w h)) hown hK hP 0 rfl rfl 12 (by decide) (hts _ (List.mem_cons_of_mem _ kw_1703)) (fun _ h9 => h9) rfl dX12_row_128 ?_
                        refine lv_iload hx hb dX12_row_131 (lv_at hl 0 rfl) ?_
                        refine va_lald hx hb hK hP 6 2 rfl rfl (i := (nI c9)) (vp_in_nI (n := c9) (N := 4) (by omega) (by omega)) dX12_row_133 ?_
                        refine lv_topl (fun x_17 ex_17 => ?_)
                        have ex_17 : x_17 = dv c9 := ex_17.trans (congrArg dv (nI_clamp (n := c9) (by omega)))
                        subst ex_17
                        refine va_last hx hb hK hP hD hS 4 2 rfl rfl (i := (nI (4 * (8 * i + q) + c9))) (x := (dv c9)) (vp_in_nI (n := 4 * (8 * i + q) + c9) (N := 192) (by omega) (by omega)) dX12_row_134 (fun H locs hP hD hS => ?_)
                        rw [show (nI (4 * (8 * i + q) + c9)).toNatClampNeg = 4 * (8 * i + q) + c9 from nI_clamp (n := 4 * (8 * i + q) + c9) (by omega)] at hP hD
                        have hP : va_P (dC, dI) vwCl [(h0, .inr (13, moF a (upd (upd (upd (upd f 4 (nI k)) 11 (nI d)) 11 0) 110 0) w)), (a 5, .inl (cI, 6, .inl cf)), (a 6, .inl (cZ, 48, .inl (upd rt (8 * i + q) (vp_nar .boolean 1)))), (a 7, .inl (cJ, 48, .inr (.inl (vp_updL ti (8 * i + q) x)))), (a 8, .inl (cJ, 192, .inr (.inl (vp_updL (rvF dv rv (4 * (8 * i + q)) c9) (4 * (8 * i + q) + c9) (dv c9))))), (a 9, .inl (cZ, 192, .inl (rnF dn rn (4 * (8 * i + q)) c9))), (a 12, .inl (cJ, 4, .inr (.inl dv))), (a 13, .inl (cZ, 4, .inl dn))] H := hP
                        have hD : va_D A [(h0, .inr (13, moF a (upd (upd (upd (upd f 4 (nI k)) 11 (nI d)) 11 0) 110 0) w)), (a 5, .inl (cI, 6, .inl cf)), (a 6, .inl (cZ, 48, .inl (upd rt (8 * i + q) (vp_nar .boolean 1)))), (a 7, .inl (cJ, 48, .inr (.inl (vp_updL ti (8 * i + q) x)))), (a 8, .inl (cJ, 192, .inr (.inl (vp_updL (rvF dv rv (4 * (8 * i + q)) c9) (4 * (8 * i + q) + c9) (dv c9))))), (a 9, .inl (cZ, 192, .inl (rnF dn rn (4 * (8 * i + q)) c9))), (a 12, .inl (cJ, 4, .inr (.inl dv))), (a 13, .inl (cZ, 4, .inl dn))] := hD
                        refine lv_aload_n hx hb dX12_row_135 rfl (lv_at hl 4 rfl) ?_
                        refine va_get (D := (dC, dI)) (ci := 13) (v := .ref (a 9)) (C := RX12) (T := TX12) (N := 115) hx hb hts (fun w h => List.mem_cons_of_mem _ (uG_X12 w h)) hown hK hP 0 rfl rfl 9 (by decide) (hts _ (List.mem_cons_of_mem _ kw_1700)) (fun _ h9 => h9) rfl dX12_row_136 ?_
                        refine lv_iconst (v := 4) hx hb dX12_row_139 (by decide) ?_
                        refine lv_iload hx hb dX12_row_140 (lv_at hl 1 rfl) ?_
                        refine lv_imul hx hb dX12_row_142 ?_
                        refine lv_topi (fun x_18 ex_18 => ?_)
                        have ex_18 : x_18 = nI (4 * (8 * i + q)) := ex_18.trans (pk_mul 4 (8 * i + q))
                        subst ex_18
                        refine lv_iload hx hb dX12_row_143 (lv_at hl 0 rfl) ?_
                        refine lv_iadd hx hb dX12_row_145 ?_
                        refine lv_topi (fun x_19 ex_19 => ?_)
                        have ex_19 : x_19 = nI (4 * (8 * i + q) + c9) := ex_19.trans (nI_add (4 * (8 * i + q)) c9)
                        subst ex_19
                        refine lv_aload_n hx hb dX12_row_146 rfl (lv_at hl 4 rfl) ?_
                        refine va_get (D := (dC, dI)) (ci := 13) (v := .ref (a 13)) (C := RX12) (T := TX12) (N := 115) hx hb hts (fun w h => List.mem_cons_of_mem _ (uG_X12 w h)) hown hK hP 0 rfl rfl 13 (by decide) (hts _ (List.mem_cons_of_mem _ kw_1704)) (fun _ h9 => h9) rfl dX12_row_147 ?_
                        refine lv_iload hx hb dX12_row_150 (lv_at hl 0 rfl) ?_
                        refine va_zald hx hb hK hP 7 3 rfl rfl (i := (nI c9)) (vp_in_nI (n := c9) (N := 4) (by omega) (by omega)) dX12_row_152 ?_
                        refine lv_topi (fun x_20 ex_20 => ?_)
                        have ex_20 : x_20 = dn c9 := ex_20.trans (congrArg dn (nI_clamp (n := c9) (by omega)))
                        subst ex_20
                        refine va_zast hx hb hK hP hD hS 5 3 rfl rfl (i := (nI (4 * (8 * i + q) + c9))) (x := (dn c9)) (vp_in_nI (n := 4 * (8 * i + q) + c9) (N := 192) (by omega) (by omega)) dX12_row_153 (fun H locs hP hD hS => ?_)
                        rw [show (nI (4 * (8 * i + q) + c9)).toNatClampNeg = 4 * (8 * i + q) + c9 from nI_clamp (n := 4 * (8 * i + q) + c9) (by omega)] at hP hD
                        have hP : va_P (dC, dI) vwCl [(h0, .inr (13, moF a (upd (upd (upd (upd f 4 (nI k)) 11 (nI d)) 11 0) 110 0) w)), (a 5, .inl (cI, 6, .inl cf)), (a 6, .inl (cZ, 48, .inl (upd rt (8 * i + q) (vp_nar .boolean 1)))), (a 7, .inl (cJ, 48, .inr (.inl (vp_updL ti (8 * i + q) x)))), (a 8, .inl (cJ, 192, .inr (.inl (vp_updL (rvF dv rv (4 * (8 * i + q)) c9) (4 * (8 * i + q) + c9) (dv c9))))), (a 9, .inl (cZ, 192, .inl (upd (rnF dn rn (4 * (8 * i + q)) c9) (4 * (8 * i + q) + c9) (vp_nar .boolean (dn c9))))), (a 12, .inl (cJ, 4, .inr (.inl dv))), (a 13, .inl (cZ, 4, .inl dn))] H := hP
                        have hD : va_D A [(h0, .inr (13, moF a (upd (upd (upd (upd f 4 (nI k)) 11 (nI d)) 11 0) 110 0) w)), (a 5, .inl (cI, 6, .inl cf)), (a 6, .inl (cZ, 48, .inl (upd rt (8 * i + q) (vp_nar .boolean 1)))), (a 7, .inl (cJ, 48, .inr (.inl (vp_updL ti (8 * i + q) x)))), (a 8, .inl (cJ, 192, .inr (.inl (vp_updL (rvF dv rv (4 * (8 * i + q)) c9) (4 * (8 * i + q) + c9) (dv c9))))), (a 9, .inl (cZ, 192, .inl (upd (rnF dn rn (4 * (8 * i + q)) c9) (4 * (8 * i + q) + c9) (vp_nar .boolean (dn c9))))), (a 12, .inl (cJ, 4, .inr (.inl dv))), (a 13, .inl (cZ, 4, .inl dn))] := hD
                        refine lv_iinc (v := nI (c9 + 1)) (lv' := [(7, .int (nI (c9 + 1))), (6, .int (nI (8 * i + q))), (5, .int (nI q)), (4, .int (nI d)), (0, .ref h0), (1, .int (nI i)), (2, .long x)]) hx hb dX12_row_154 hl (k := 0) rfl (nI_add c9 1) (by decide) rfl (fun ls hl => ?_)
                        refine lv_goto (tgt := 109) hx hb dX12_row_157 (by decide) ?_
                        exact ih_109 (c9 + 1) (by omega) (by omega) _ _ _ (hP.sub [0, 1, 2, 3, 4, 5, 6, 7] rfl) (hD.sub [0, 1, 2, 3, 4, 5, 6, 7] (by decide) rfl) hS (lv_sub hl [0, 1, 2, 3, 4, 5, 6] rfl)
                  exact lp_109 _ 0 (Nat.zero_le _) (Nat.lt_succ_self _) _ _ _ (hP.sub [0, 1, 2, 3, 4, 5, 6, 7] rfl) (hD.sub [0, 1, 2, 3, 4, 5, 6, 7] (by decide) rfl) hS (lv_sub hl [0, 1, 2, 3, 4, 5, 6] rfl)
                · skip
                  have c_10 : q = 8 := (nI_eq (a := q) (b := 8) (by omega) (by omega)).mp c_10
                  exact absurd c_10 (by omega)
              · skip
                refine lv_iinc (v := nI (p1 + 1)) (lv' := [(5, .int (nI (p1 + 1))), (4, .int (nI d)), (0, .ref h0), (1, .int (nI i)), (2, .long x)]) hx hb dX12_row_66 hl (k := 0) rfl (nI_add p1 1) (by decide) rfl (fun ls hl => ?_)
                refine lv_goto (tgt := 44) hx hb dX12_row_69 (by decide) ?_
                exact ih_44 (p1 + 1) (by omega) (hfr1.trans (frN_n (by omega) c_9)) (by omega) _ _ _ (hP.sub [0, 1, 2, 3, 4, 5, 6, 7] rfl) (hD.sub [0, 1, 2, 3, 4, 5, 6, 7] (by decide) rfl) hS (lv_sub hl [0, 1, 2, 3, 4] rfl)
        exact lp_44 _ 0 (Nat.zero_le _) rfl (Nat.lt_succ_self _) _ _ _ (hP.sub [0, 1, 2, 3, 4, 5, 6, 7] rfl) (hD.sub [0, 1, 2, 3, 4, 5, 6, 7] (by decide) rfl) hS (lv_sub hl [0, 1, 2, 3, 4] rfl)
      · skip
        have c_4 : ¬ (d = n1) := fun h => c_4 ((nI_eq (a := d) (b := n1) (by omega) (by omega)).mpr h)
        exact absurd hd c_4
