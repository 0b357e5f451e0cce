/-! the reference, mirrored: truth, eval, aggregated, isOneOf, join, filter, grouped, plain, hasRow, once, setOf, ahead, ordered -/
abbrev TG_truth : Type := (RS → Int32 → Option (RS × Int32)) × (RS → Int32 → Option (RS × Int64)) × (RS → Int32 → Int32 → Option (RS × Int64)) × (RS → Int32 → Option (RS × Int64))
theorem dX12_truth_0 : decode cX12_truth 0 = .ok (.aload_n 0, 1) := by decide +kernel
theorem dX12_truth_1 : decode cX12_truth 1 = .ok (.iload_n 1, 1) := by decide +kernel
theorem dX12_truth_2 : decode cX12_truth 2 = .ok (.invokevirtual 600, 3) := by decide +kernel
theorem dX12_truth_5 : decode cX12_truth 5 = .ok (.lstore_n 2, 1) := by decide +kernel
theorem dX12_truth_6 : decode cX12_truth 6 = .ok (.aload_n 0, 1) := by decide +kernel
theorem dX12_truth_7 : decode cX12_truth 7 = .ok (.getfield 604, 3) := by decide +kernel
theorem dX12_truth_10 : decode cX12_truth 10 = .ok (.ifCond .eq 7, 3) := by decide +kernel
theorem dX12_truth_13 : decode cX12_truth 13 = .ok (.iconst 2, 1) := by decide +kernel
theorem dX12_truth_14 : decode cX12_truth 14 = .ok (.goto 14, 3) := by decide +kernel
theorem dX12_truth_17 : decode cX12_truth 17 = .ok (.lload_n 2, 1) := by decide +kernel
theorem dX12_truth_18 : decode cX12_truth 18 = .ok (.lconst 0, 1) := by decide +kernel
theorem dX12_truth_19 : decode cX12_truth 19 = .ok (.lcmp, 1) := by decide +kernel
theorem dX12_truth_20 : decode cX12_truth 20 = .ok (.ifCond .eq 7, 3) := by decide +kernel
theorem dX12_truth_23 : decode cX12_truth 23 = .ok (.iconst 1, 1) := by decide +kernel
theorem dX12_truth_24 : decode cX12_truth 24 = .ok (.goto 4, 3) := by decide +kernel
theorem dX12_truth_27 : decode cX12_truth 27 = .ok (.iconst 0, 1) := by decide +kernel
theorem dX12_truth_28 : decode cX12_truth 28 = .ok (.ireturn, 1) := by decide +kernel
def m_truth_b28 (F : Nat) (T : TG_truth) (cs1 : RS) (y0 : Int32) : Option (RS × Int32) := some (cs1, y0)
def b_truth (F : Nat) (T : TG_truth) (cs : RS) (x1 : Int32) : Option (RS × Int32) := Option.bind (T.2.1 cs x1) fun z_1 => if (z_1.1.1 92) = 0 then (if z_1.2 = 0 then (m_truth_b28 F T z_1.1 0) else (m_truth_b28 F T z_1.1 1)) else (m_truth_b28 F T z_1.1 2)
theorem dX12_eval_0 : decode cX12_eval 0 = .ok (.aload_n 0, 1) := by decide +kernel
theorem dX12_eval_1 : decode cX12_eval 1 = .ok (.getfield 52, 3) := by decide +kernel
theorem dX12_eval_4 : decode cX12_eval 4 = .ok (.iload_n 1, 1) := by decide +kernel
theorem dX12_eval_5 : decode cX12_eval 5 = .ok (.iaload, 1) := by decide +kernel
theorem dX12_eval_6 : decode cX12_eval 6 = .ok (.istore_n 2, 1) := by decide +kernel
theorem dX12_eval_7 : decode cX12_eval 7 = .ok (.iload_n 2, 1) := by decide +kernel
theorem dX12_eval_8 : decode cX12_eval 8 = .ok (.iconst 1, 1) := by decide +kernel
theorem dX12_eval_9 : decode cX12_eval 9 = .ok (.if_icmp .ne 14, 3) := by decide +kernel
theorem dX12_eval_12 : decode cX12_eval 12 = .ok (.aload_n 0, 1) := by decide +kernel
theorem dX12_eval_13 : decode cX12_eval 13 = .ok (.aload_n 0, 1) := by decide +kernel
theorem dX12_eval_14 : decode cX12_eval 14 = .ok (.getfield 67, 3) := by decide +kernel
theorem dX12_eval_17 : decode cX12_eval 17 = .ok (.iload_n 1, 1) := by decide +kernel
theorem dX12_eval_18 : decode cX12_eval 18 = .ok (.laload, 1) := by decide +kernel
theorem dX12_eval_19 : decode cX12_eval 19 = .ok (.invokevirtual 611, 3) := by decide +kernel
theorem dX12_eval_22 : decode cX12_eval 22 = .ok (.lreturn, 1) := by decide +kernel
theorem dX12_eval_23 : decode cX12_eval 23 = .ok (.iload_n 2, 1) := by decide +kernel
theorem dX12_eval_24 : decode cX12_eval 24 = .ok (.iconst 2, 1) := by decide +kernel
theorem dX12_eval_25 : decode cX12_eval 25 = .ok (.if_icmp .ne 8, 3) := by decide +kernel
theorem dX12_eval_28 : decode cX12_eval 28 = .ok (.aload_n 0, 1) := by decide +kernel
theorem dX12_eval_29 : decode cX12_eval 29 = .ok (.invokevirtual 607, 3) := by decide +kernel
theorem dX12_eval_32 : decode cX12_eval 32 = .ok (.lreturn, 1) := by decide +kernel
theorem dX12_eval_33 : decode cX12_eval 33 = .ok (.iload_n 2, 1) := by decide +kernel
theorem dX12_eval_34 : decode cX12_eval 34 = .ok (.iconst 3, 1) := by decide +kernel
theorem dX12_eval_35 : decode cX12_eval 35 = .ok (.if_icmp .eq 8, 3) := by decide +kernel
theorem dX12_eval_38 : decode cX12_eval 38 = .ok (.iload_n 2, 1) := by decide +kernel
theorem dX12_eval_39 : decode cX12_eval 39 = .ok (.iconst 4, 1) := by decide +kernel
theorem dX12_eval_40 : decode cX12_eval 40 = .ok (.if_icmp .ne 18, 3) := by decide +kernel
theorem dX12_eval_43 : decode cX12_eval 43 = .ok (.aload_n 0, 1) := by decide +kernel
theorem dX12_eval_44 : decode cX12_eval 44 = .ok (.iload_n 2, 1) := by decide +kernel
theorem dX12_eval_45 : decode cX12_eval 45 = .ok (.iconst 3, 1) := by decide +kernel
theorem dX12_eval_46 : decode cX12_eval 46 = .ok (.if_icmp .ne 7, 3) := by decide +kernel
theorem dX12_eval_49 : decode cX12_eval 49 = .ok (.lconst 1, 1) := by decide +kernel
theorem dX12_eval_50 : decode cX12_eval 50 = .ok (.goto 4, 3) := by decide +kernel
theorem dX12_eval_53 : decode cX12_eval 53 = .ok (.lconst 0, 1) := by decide +kernel
theorem dX12_eval_54 : decode cX12_eval 54 = .ok (.invokevirtual 611, 3) := by decide +kernel
theorem dX12_eval_57 : decode cX12_eval 57 = .ok (.lreturn, 1) := by decide +kernel
theorem dX12_eval_58 : decode cX12_eval 58 = .ok (.iload_n 2, 1) := by decide +kernel
theorem dX12_eval_59 : decode cX12_eval 59 = .ok (.iconst 5, 1) := by decide +kernel
theorem dX12_eval_60 : decode cX12_eval 60 = .ok (.if_icmp .ne 57, 3) := by decide +kernel
theorem dX12_eval_63 : decode cX12_eval 63 = .ok (.aload_n 0, 1) := by decide +kernel
theorem dX12_eval_64 : decode cX12_eval 64 = .ok (.getfield 615, 3) := by decide +kernel
theorem dX12_eval_67 : decode cX12_eval 67 = .ok (.ifCond .eq 10, 3) := by decide +kernel
theorem dX12_eval_70 : decode cX12_eval 70 = .ok (.aload_n 0, 1) := by decide +kernel
theorem dX12_eval_71 : decode cX12_eval 71 = .ok (.getfield 618, 3) := by decide +kernel
theorem dX12_eval_74 : decode cX12_eval 74 = .ok (.goto 7, 3) := by decide +kernel
theorem dX12_eval_77 : decode cX12_eval 77 = .ok (.aload_n 0, 1) := by decide +kernel
theorem dX12_eval_78 : decode cX12_eval 78 = .ok (.getfield 621, 3) := by decide +kernel
theorem dX12_eval_81 : decode cX12_eval 81 = .ok (.aload_n 0, 1) := by decide +kernel
theorem dX12_eval_82 : decode cX12_eval 82 = .ok (.getfield 82, 3) := by decide +kernel
theorem dX12_eval_85 : decode cX12_eval 85 = .ok (.iload_n 1, 1) := by decide +kernel
theorem dX12_eval_86 : decode cX12_eval 86 = .ok (.iaload, 1) := by decide +kernel
theorem dX12_eval_87 : decode cX12_eval 87 = .ok (.iadd, 1) := by decide +kernel
theorem dX12_eval_88 : decode cX12_eval 88 = .ok (.istore_n 3, 1) := by decide +kernel
theorem dX12_eval_89 : decode cX12_eval 89 = .ok (.aload_n 0, 1) := by decide +kernel
theorem dX12_eval_90 : decode cX12_eval 90 = .ok (.aload_n 0, 1) := by decide +kernel
theorem dX12_eval_91 : decode cX12_eval 91 = .ok (.getfield 197, 3) := by decide +kernel
theorem dX12_eval_94 : decode cX12_eval 94 = .ok (.iload_n 3, 1) := by decide +kernel
theorem dX12_eval_95 : decode cX12_eval 95 = .ok (.baload, 1) := by decide +kernel
theorem dX12_eval_96 : decode cX12_eval 96 = .ok (.putfield 604, 3) := by decide +kernel
theorem dX12_eval_99 : decode cX12_eval 99 = .ok (.aload_n 0, 1) := by decide +kernel
theorem dX12_eval_100 : decode cX12_eval 100 = .ok (.getfield 604, 3) := by decide +kernel
theorem dX12_eval_103 : decode cX12_eval 103 = .ok (.ifCond .eq 7, 3) := by decide +kernel
theorem dX12_eval_106 : decode cX12_eval 106 = .ok (.lconst 0, 1) := by decide +kernel
theorem dX12_eval_107 : decode cX12_eval 107 = .ok (.goto 9, 3) := by decide +kernel
theorem dX12_eval_110 : decode cX12_eval 110 = .ok (.aload_n 0, 1) := by decide +kernel
theorem dX12_eval_111 : decode cX12_eval 111 = .ok (.getfield 194, 3) := by decide +kernel
theorem dX12_eval_114 : decode cX12_eval 114 = .ok (.iload_n 3, 1) := by decide +kernel
theorem dX12_eval_115 : decode cX12_eval 115 = .ok (.laload, 1) := by decide +kernel
theorem dX12_eval_116 : decode cX12_eval 116 = .ok (.lreturn, 1) := by decide +kernel
theorem dX12_eval_117 : decode cX12_eval 117 = .ok (.iload_n 2, 1) := by decide +kernel
theorem dX12_eval_118 : decode cX12_eval 118 = .ok (.bipush 20, 2) := by decide +kernel
theorem dX12_eval_120 : decode cX12_eval 120 = .ok (.if_icmp .lt 10, 3) := by decide +kernel
theorem dX12_eval_123 : decode cX12_eval 123 = .ok (.aload_n 0, 1) := by decide +kernel
theorem dX12_eval_124 : decode cX12_eval 124 = .ok (.iload_n 1, 1) := by decide +kernel
theorem dX12_eval_125 : decode cX12_eval 125 = .ok (.iload_n 2, 1) := by decide +kernel
theorem dX12_eval_126 : decode cX12_eval 126 = .ok (.invokevirtual 624, 3) := by decide +kernel
theorem dX12_eval_129 : decode cX12_eval 129 = .ok (.lreturn, 1) := by decide +kernel
theorem dX12_eval_130 : decode cX12_eval 130 = .ok (.iload_n 2, 1) := by decide +kernel
theorem dX12_eval_131 : decode cX12_eval 131 = .ok (.bipush 6, 2) := by decide +kernel
theorem dX12_eval_133 : decode cX12_eval 133 = .ok (.if_icmp .eq 9, 3) := by decide +kernel
theorem dX12_eval_136 : decode cX12_eval 136 = .ok (.iload_n 2, 1) := by decide +kernel
theorem dX12_eval_137 : decode cX12_eval 137 = .ok (.bipush 7, 2) := by decide +kernel
theorem dX12_eval_139 : decode cX12_eval 139 = .ok (.if_icmp .ne 42, 3) := by decide +kernel
theorem dX12_eval_142 : decode cX12_eval 142 = .ok (.aload_n 0, 1) := by decide +kernel
theorem dX12_eval_143 : decode cX12_eval 143 = .ok (.iload_n 2, 1) := by decide +kernel
theorem dX12_eval_144 : decode cX12_eval 144 = .ok (.bipush 6, 2) := by decide +kernel
theorem dX12_eval_146 : decode cX12_eval 146 = .ok (.if_icmp .ne 7, 3) := by decide +kernel
theorem dX12_eval_149 : decode cX12_eval 149 = .ok (.iconst 1, 1) := by decide +kernel
theorem dX12_eval_150 : decode cX12_eval 150 = .ok (.goto 4, 3) := by decide +kernel
theorem dX12_eval_153 : decode cX12_eval 153 = .ok (.iconst 0, 1) := by decide +kernel
theorem dX12_eval_154 : decode cX12_eval 154 = .ok (.aload_n 0, 1) := by decide +kernel
theorem dX12_eval_155 : decode cX12_eval 155 = .ok (.aload_n 0, 1) := by decide +kernel
theorem dX12_eval_156 : decode cX12_eval 156 = .ok (.getfield 55, 3) := by decide +kernel
theorem dX12_eval_159 : decode cX12_eval 159 = .ok (.iload_n 1, 1) := by decide +kernel
theorem dX12_eval_160 : decode cX12_eval 160 = .ok (.iaload, 1) := by decide +kernel
theorem dX12_eval_161 : decode cX12_eval 161 = .ok (.invokevirtual 628, 3) := by decide +kernel
theorem dX12_eval_164 : decode cX12_eval 164 = .ok (.aload_n 0, 1) := by decide +kernel
theorem dX12_eval_165 : decode cX12_eval 165 = .ok (.aload_n 0, 1) := by decide +kernel
theorem dX12_eval_166 : decode cX12_eval 166 = .ok (.getfield 58, 3) := by decide +kernel
theorem dX12_eval_169 : decode cX12_eval 169 = .ok (.iload_n 1, 1) := by decide +kernel
theorem dX12_eval_170 : decode cX12_eval 170 = .ok (.iaload, 1) := by decide +kernel
theorem dX12_eval_171 : decode cX12_eval 171 = .ok (.invokevirtual 628, 3) := by decide +kernel
theorem dX12_eval_174 : decode cX12_eval 174 = .ok (.invokestatic 631, 3) := by decide +kernel
theorem dX12_eval_177 : decode cX12_eval 177 = .ok (.invokevirtual 635, 3) := by decide +kernel
theorem dX12_eval_180 : decode cX12_eval 180 = .ok (.lreturn, 1) := by decide +kernel
theorem dX12_eval_181 : decode cX12_eval 181 = .ok (.iload_n 2, 1) := by decide +kernel
theorem dX12_eval_182 : decode cX12_eval 182 = .ok (.bipush 8, 2) := by decide +kernel
theorem dX12_eval_184 : decode cX12_eval 184 = .ok (.if_icmp .ne 31, 3) := by decide +kernel
theorem dX12_eval_187 : decode cX12_eval 187 = .ok (.aload_n 0, 1) := by decide +kernel
theorem dX12_eval_188 : decode cX12_eval 188 = .ok (.aload_n 0, 1) := by decide +kernel
theorem dX12_eval_189 : decode cX12_eval 189 = .ok (.getfield 55, 3) := by decide +kernel
theorem dX12_eval_192 : decode cX12_eval 192 = .ok (.iload_n 1, 1) := by decide +kernel
theorem dX12_eval_193 : decode cX12_eval 193 = .ok (.iaload, 1) := by decide +kernel
theorem dX12_eval_194 : decode cX12_eval 194 = .ok (.invokevirtual 628, 3) := by decide +kernel
theorem dX12_eval_197 : decode cX12_eval 197 = .ok (.istore_n 3, 1) := by decide +kernel
theorem dX12_eval_198 : decode cX12_eval 198 = .ok (.aload_n 0, 1) := by decide +kernel
theorem dX12_eval_199 : decode cX12_eval 199 = .ok (.iload_n 3, 1) := by decide +kernel
theorem dX12_eval_200 : decode cX12_eval 200 = .ok (.iconst 2, 1) := by decide +kernel
theorem dX12_eval_201 : decode cX12_eval 201 = .ok (.if_icmp .ne 7, 3) := by decide +kernel
theorem dX12_eval_204 : decode cX12_eval 204 = .ok (.iconst 2, 1) := by decide +kernel
theorem dX12_eval_205 : decode cX12_eval 205 = .ok (.goto 6, 3) := by decide +kernel
theorem dX12_eval_208 : decode cX12_eval 208 = .ok (.iconst 1, 1) := by decide +kernel
theorem dX12_eval_209 : decode cX12_eval 209 = .ok (.iload_n 3, 1) := by decide +kernel
theorem dX12_eval_210 : decode cX12_eval 210 = .ok (.isub, 1) := by decide +kernel
theorem dX12_eval_211 : decode cX12_eval 211 = .ok (.invokevirtual 635, 3) := by decide +kernel
theorem dX12_eval_214 : decode cX12_eval 214 = .ok (.lreturn, 1) := by decide +kernel
theorem dX12_eval_215 : decode cX12_eval 215 = .ok (.iload_n 2, 1) := by decide +kernel
theorem dX12_eval_216 : decode cX12_eval 216 = .ok (.bipush 10, 2) := by decide +kernel
theorem dX12_eval_218 : decode cX12_eval 218 = .ok (.if_icmp .ne 49, 3) := by decide +kernel
theorem dX12_eval_221 : decode cX12_eval 221 = .ok (.aload_n 0, 1) := by decide +kernel
theorem dX12_eval_222 : decode cX12_eval 222 = .ok (.aload_n 0, 1) := by decide +kernel
theorem dX12_eval_223 : decode cX12_eval 223 = .ok (.getfield 55, 3) := by decide +kernel
theorem dX12_eval_226 : decode cX12_eval 226 = .ok (.iload_n 1, 1) := by decide +kernel
theorem dX12_eval_227 : decode cX12_eval 227 = .ok (.iaload, 1) := by decide +kernel
theorem dX12_eval_228 : decode cX12_eval 228 = .ok (.invokevirtual 600, 3) := by decide +kernel
theorem dX12_eval_231 : decode cX12_eval 231 = .ok (.lstore_n 3, 1) := by decide +kernel
theorem dX12_eval_232 : decode cX12_eval 232 = .ok (.aload_n 0, 1) := by decide +kernel
theorem dX12_eval_233 : decode cX12_eval 233 = .ok (.getfield 604, 3) := by decide +kernel
theorem dX12_eval_236 : decode cX12_eval 236 = .ok (.istore 5, 2) := by decide +kernel
theorem dX12_eval_238 : decode cX12_eval 238 = .ok (.aload_n 0, 1) := by decide +kernel
theorem dX12_eval_239 : decode cX12_eval 239 = .ok (.iload 5, 2) := by decide +kernel
theorem dX12_eval_241 : decode cX12_eval 241 = .ok (.aload_n 0, 1) := by decide +kernel
theorem dX12_eval_242 : decode cX12_eval 242 = .ok (.getfield 64, 3) := by decide +kernel
theorem dX12_eval_245 : decode cX12_eval 245 = .ok (.iload_n 1, 1) := by decide +kernel
theorem dX12_eval_246 : decode cX12_eval 246 = .ok (.iaload, 1) := by decide +kernel
theorem dX12_eval_247 : decode cX12_eval 247 = .ok (.ifCond .ne 7, 3) := by decide +kernel
theorem dX12_eval_250 : decode cX12_eval 250 = .ok (.iconst 1, 1) := by decide +kernel
theorem dX12_eval_251 : decode cX12_eval 251 = .ok (.goto 4, 3) := by decide +kernel
theorem dX12_eval_254 : decode cX12_eval 254 = .ok (.iconst 0, 1) := by decide +kernel
theorem dX12_eval_255 : decode cX12_eval 255 = .ok (.if_icmp .ne 7, 3) := by decide +kernel
theorem dX12_eval_258 : decode cX12_eval 258 = .ok (.lconst 1, 1) := by decide +kernel
theorem dX12_eval_259 : decode cX12_eval 259 = .ok (.goto 4, 3) := by decide +kernel
theorem dX12_eval_262 : decode cX12_eval 262 = .ok (.lconst 0, 1) := by decide +kernel
theorem dX12_eval_263 : decode cX12_eval 263 = .ok (.invokevirtual 611, 3) := by decide +kernel
theorem dX12_eval_266 : decode cX12_eval 266 = .ok (.lreturn, 1) := by decide +kernel
theorem dX12_eval_267 : decode cX12_eval 267 = .ok (.iload_n 2, 1) := by decide +kernel
theorem dX12_eval_268 : decode cX12_eval 268 = .ok (.bipush 18, 2) := by decide +kernel
theorem dX12_eval_270 : decode cX12_eval 270 = .ok (.if_icmp .ne 41, 3) := by decide +kernel
theorem dX12_eval_273 : decode cX12_eval 273 = .ok (.aload_n 0, 1) := by decide +kernel
theorem dX12_eval_274 : decode cX12_eval 274 = .ok (.aload_n 0, 1) := by decide +kernel
theorem dX12_eval_275 : decode cX12_eval 275 = .ok (.getfield 55, 3) := by decide +kernel
theorem dX12_eval_278 : decode cX12_eval 278 = .ok (.iload_n 1, 1) := by decide +kernel
theorem dX12_eval_279 : decode cX12_eval 279 = .ok (.iaload, 1) := by decide +kernel
theorem dX12_eval_280 : decode cX12_eval 280 = .ok (.invokevirtual 628, 3) := by decide +kernel
theorem dX12_eval_283 : decode cX12_eval 283 = .ok (.iconst 1, 1) := by decide +kernel
theorem dX12_eval_284 : decode cX12_eval 284 = .ok (.if_icmp .ne 16, 3) := by decide +kernel
theorem dX12_eval_287 : decode cX12_eval 287 = .ok (.aload_n 0, 1) := by decide +kernel
theorem dX12_eval_288 : decode cX12_eval 288 = .ok (.aload_n 0, 1) := by decide +kernel
theorem dX12_eval_289 : decode cX12_eval 289 = .ok (.getfield 58, 3) := by decide +kernel
theorem dX12_eval_292 : decode cX12_eval 292 = .ok (.iload_n 1, 1) := by decide +kernel
theorem dX12_eval_293 : decode cX12_eval 293 = .ok (.iaload, 1) := by decide +kernel
theorem dX12_eval_294 : decode cX12_eval 294 = .ok (.invokevirtual 600, 3) := by decide +kernel
theorem dX12_eval_297 : decode cX12_eval 297 = .ok (.goto 13, 3) := by decide +kernel
theorem dX12_eval_300 : decode cX12_eval 300 = .ok (.aload_n 0, 1) := by decide +kernel
theorem dX12_eval_301 : decode cX12_eval 301 = .ok (.aload_n 0, 1) := by decide +kernel
theorem dX12_eval_302 : decode cX12_eval 302 = .ok (.getfield 61, 3) := by decide +kernel
theorem dX12_eval_305 : decode cX12_eval 305 = .ok (.iload_n 1, 1) := by decide +kernel
theorem dX12_eval_306 : decode cX12_eval 306 = .ok (.iaload, 1) := by decide +kernel
theorem dX12_eval_307 : decode cX12_eval 307 = .ok (.invokevirtual 600, 3) := by decide +kernel
theorem dX12_eval_310 : decode cX12_eval 310 = .ok (.lreturn, 1) := by decide +kernel
theorem dX12_eval_311 : decode cX12_eval 311 = .ok (.iload_n 2, 1) := by decide +kernel
theorem dX12_eval_312 : decode cX12_eval 312 = .ok (.bipush 11, 2) := by decide +kernel
theorem dX12_eval_314 : decode cX12_eval 314 = .ok (.if_icmp .ne 9, 3) := by decide +kernel
theorem dX12_eval_317 : decode cX12_eval 317 = .ok (.aload_n 0, 1) := by decide +kernel
theorem dX12_eval_318 : decode cX12_eval 318 = .ok (.iload_n 1, 1) := by decide +kernel
theorem dX12_eval_319 : decode cX12_eval 319 = .ok (.invokevirtual 638, 3) := by decide +kernel
theorem dX12_eval_322 : decode cX12_eval 322 = .ok (.lreturn, 1) := by decide +kernel
theorem dX12_eval_323 : decode cX12_eval 323 = .ok (.aload_n 0, 1) := by decide +kernel
theorem dX12_eval_324 : decode cX12_eval 324 = .ok (.aload_n 0, 1) := by decide +kernel
theorem dX12_eval_325 : decode cX12_eval 325 = .ok (.getfield 55, 3) := by decide +kernel
theorem dX12_eval_328 : decode cX12_eval 328 = .ok (.iload_n 1, 1) := by decide +kernel
theorem dX12_eval_329 : decode cX12_eval 329 = .ok (.iaload, 1) := by decide +kernel
theorem dX12_eval_330 : decode cX12_eval 330 = .ok (.invokevirtual 600, 3) := by decide +kernel
theorem dX12_eval_333 : decode cX12_eval 333 = .ok (.lstore_n 3, 1) := by decide +kernel
theorem dX12_eval_334 : decode cX12_eval 334 = .ok (.aload_n 0, 1) := by decide +kernel
theorem dX12_eval_335 : decode cX12_eval 335 = .ok (.getfield 604, 3) := by decide +kernel
theorem dX12_eval_338 : decode cX12_eval 338 = .ok (.istore 5, 2) := by decide +kernel
theorem dX12_eval_340 : decode cX12_eval 340 = .ok (.iload_n 2, 1) := by decide +kernel
theorem dX12_eval_341 : decode cX12_eval 341 = .ok (.bipush 17, 2) := by decide +kernel
theorem dX12_eval_343 : decode cX12_eval 343 = .ok (.if_icmp .ne 22, 3) := by decide +kernel
theorem dX12_eval_346 : decode cX12_eval 346 = .ok (.iload 5, 2) := by decide +kernel
theorem dX12_eval_348 : decode cX12_eval 348 = .ok (.ifCond .eq 10, 3) := by decide +kernel
theorem dX12_eval_351 : decode cX12_eval 351 = .ok (.aload_n 0, 1) := by decide +kernel
theorem dX12_eval_352 : decode cX12_eval 352 = .ok (.invokevirtual 607, 3) := by decide +kernel
theorem dX12_eval_355 : decode cX12_eval 355 = .ok (.goto 9, 3) := by decide +kernel
theorem dX12_eval_358 : decode cX12_eval 358 = .ok (.aload_n 0, 1) := by decide +kernel
theorem dX12_eval_359 : decode cX12_eval 359 = .ok (.lload_n 3, 1) := by decide +kernel
theorem dX12_eval_360 : decode cX12_eval 360 = .ok (.lneg, 1) := by decide +kernel
theorem dX12_eval_361 : decode cX12_eval 361 = .ok (.invokevirtual 611, 3) := by decide +kernel
theorem dX12_eval_364 : decode cX12_eval 364 = .ok (.lreturn, 1) := by decide +kernel
theorem dX12_eval_365 : decode cX12_eval 365 = .ok (.aload_n 0, 1) := by decide +kernel
theorem dX12_eval_366 : decode cX12_eval 366 = .ok (.aload_n 0, 1) := by decide +kernel
theorem dX12_eval_367 : decode cX12_eval 367 = .ok (.getfield 58, 3) := by decide +kernel
theorem dX12_eval_370 : decode cX12_eval 370 = .ok (.iload_n 1, 1) := by decide +kernel
theorem dX12_eval_371 : decode cX12_eval 371 = .ok (.iaload, 1) := by decide +kernel
theorem dX12_eval_372 : decode cX12_eval 372 = .ok (.invokevirtual 600, 3) := by decide +kernel
theorem dX12_eval_375 : decode cX12_eval 375 = .ok (.lstore 6, 2) := by decide +kernel
theorem dX12_eval_377 : decode cX12_eval 377 = .ok (.iload 5, 2) := by decide +kernel
theorem dX12_eval_379 : decode cX12_eval 379 = .ok (.ifCond .ne 10, 3) := by decide +kernel
theorem dX12_eval_382 : decode cX12_eval 382 = .ok (.aload_n 0, 1) := by decide +kernel
theorem dX12_eval_383 : decode cX12_eval 383 = .ok (.getfield 604, 3) := by decide +kernel
theorem dX12_eval_386 : decode cX12_eval 386 = .ok (.ifCond .eq 8, 3) := by decide +kernel
theorem dX12_eval_389 : decode cX12_eval 389 = .ok (.aload_n 0, 1) := by decide +kernel
theorem dX12_eval_390 : decode cX12_eval 390 = .ok (.invokevirtual 607, 3) := by decide +kernel
theorem dX12_eval_393 : decode cX12_eval 393 = .ok (.lreturn, 1) := by decide +kernel
theorem dX12_eval_394 : decode cX12_eval 394 = .ok (.aload_n 0, 1) := by decide +kernel
theorem dX12_eval_395 : decode cX12_eval 395 = .ok (.iload_n 1, 1) := by decide +kernel
theorem dX12_eval_396 : decode cX12_eval 396 = .ok (.iload_n 2, 1) := by decide +kernel
theorem dX12_eval_397 : decode cX12_eval 397 = .ok (.lload_n 3, 1) := by decide +kernel
theorem dX12_eval_398 : decode cX12_eval 398 = .ok (.lload 6, 2) := by decide +kernel
theorem dX12_eval_400 : decode cX12_eval 400 = .ok (.invokevirtual 641, 3) := by decide +kernel
theorem dX12_eval_403 : decode cX12_eval 403 = .ok (.lreturn, 1) := by decide +kernel
def m_eval_b54 (F : Nat) (T : TG_truth) (cs1 : RS) (y0 : Int64) : Option (RS × Int64) := Option.bind (m_some F cs1 y0) fun z_1 => some (z_1.1, z_1.2)
def m_eval_b43 (F : Nat) (T : TG_truth) (cs1 : RS) (u2 : Int32) : Option (RS × Int64) := if u2 = 3 then (m_eval_b54 F T cs1 1) else (m_eval_b54 F T cs1 0)
def m_eval_b116 (F : Nat) (T : TG_truth) (cs1 : RS) (y0 : Int64) : Option (RS × Int64) := some (cs1, y0)
def m_eval_b81 (F : Nat) (T : TG_truth) (cs1 : RS) (u1 : Int32) (y0 : Int32) : Option (RS × Int64) := Option.bind (rdI (cs1.2.2.1 33) 121 u1) fun v_3 => Option.bind (rdI (cs1.2.2.1 86) 400000 (y0 + v_3)) fun v_4 => Option.bind (ckZ v_4) fun _ => if ((setF cs1 92 v_4).1 92) = 0 then (Option.bind (rdL ((setF cs1 92 v_4).2.2.2 85) 400000 (y0 + v_3)) fun v_7 => m_eval_b116 F T (setF cs1 92 v_4) v_7) else (m_eval_b116 F T (setF cs1 92 v_4) 0)
def m_eval_b154 (F : Nat) (T : TG_truth) (cs1 : RS) (u1 : Int32) (y0 : Int32) : Option (RS × Int64) := Option.bind (rdI (cs1.2.2.1 24) 121 u1) fun v_8 => Option.bind (T.1 cs1 v_8) fun z_9 => Option.bind (rdI (z_9.1.2.2.1 25) 121 u1) fun v_10 => Option.bind (T.1 z_9.1 v_10) fun z_11 => Option.bind (m_both F z_11.1 y0 z_9.2 z_11.2) fun v_12 => Option.bind (m_ofTruth F z_11.1 v_12) fun z_13 => some (z_13.1, z_13.2)
def m_eval_b142 (F : Nat) (T : TG_truth) (cs1 : RS) (u1 : Int32) (u2 : Int32) : Option (RS × Int64) := if u2 = 6 then (m_eval_b154 F T cs1 u1 1) else (m_eval_b154 F T cs1 u1 0)
def m_eval_b211 (F : Nat) (T : TG_truth) (cs1 : RS) (y0 : Int32) : Option (RS × Int64) := Option.bind (m_ofTruth F cs1 y0) fun z_15 => some (z_15.1, z_15.2)
def m_eval_b263 (F : Nat) (T : TG_truth) (cs1 : RS) (y0 : Int64) : Option (RS × Int64) := Option.bind (m_some F cs1 y0) fun z_16 => some (z_16.1, z_16.2)
def m_eval_b255 (F : Nat) (T : TG_truth) (cs1 : RS) (y0 : Int32) (y1 : Int32) : Option (RS × Int64) := if y1 = y0 then (m_eval_b263 F T cs1 1) else (m_eval_b263 F T cs1 0)
def m_eval_b310 (F : Nat) (T : TG_truth) (cs1 : RS) (y0 : Int64) : Option (RS × Int64) := some (cs1, y0)
def m_eval_b364 (F : Nat) (T : TG_truth) (cs1 : RS) (y0 : Int64) : Option (RS × Int64) := some (cs1, y0)
def m_eval_b389 (F : Nat) (T : TG_truth) (cs1 : RS) : Option (RS × Int64) := Option.bind (m_nothing0 F cs1 ) fun z_18 => some (z_18.1, z_18.2)
def b_eval (F : Nat) (T : TG_truth) (cs : RS) (x1 : Int32) : Option (RS × Int64) := Option.bind (rdI (cs.2.2.1 23) 121 x1) fun v_19 => if v_19 = 1 then (Option.bind (rdL (cs.2.2.2 28) 121 x1) fun v_61 => Option.bind (m_some F cs v_61) fun z_62 => some (z_62.1, z_62.2)) else (if v_19 = 2 then (Option.bind (m_nothing0 F cs ) fun z_60 => some (z_60.1, z_60.2)) else (if v_19 = 3 then (m_eval_b43 F T cs v_19) else (if v_19 = 4 then (m_eval_b43 F T cs v_19) else (if v_19 = 5 then (if (cs.1 97) = 0 then (m_eval_b81 F T cs x1 (cs.1 93)) else (m_eval_b81 F T cs x1 (cs.1 94))) else (if v_19 < 20 then (if v_19 = 6 then (m_eval_b142 F T cs x1 v_19) else (if v_19 = 7 then (m_eval_b142 F T cs x1 v_19) else (if v_19 = 8 then (Option.bind (rdI (cs.2.2.1 24) 121 x1) fun v_55 => Option.bind (T.1 cs v_55) fun z_56 => if z_56.2 = 2 then (m_eval_b211 F T z_56.1 2) else (m_eval_b211 F T z_56.1 (1 - z_56.2))) else (if v_19 = 10 then (Option.bind (rdI (cs.2.2.1 24) 121 x1) fun v_51 => Option.bind (T.2.1 cs v_51) fun z_52 => Option.bind (rdI (z_52.1.2.2.1 27) 121 x1) fun v_53 => if v_53 = 0 then (m_eval_b255 F T z_52.1 1 (z_52.1.1 92)) else (m_eval_b255 F T z_52.1 0 (z_52.1.1 92))) else (if v_19 = 18 then (Option.bind (rdI (cs.2.2.1 24) 121 x1) fun v_44 => Option.bind (T.1 cs v_44) fun z_45 => if z_45.2 = 1 then (Option.bind (rdI (z_45.1.2.2.1 25) 121 x1) fun v_49 => Option.bind (T.2.1 z_45.1 v_49) fun z_50 => m_eval_b310 F T z_50.1 z_50.2) else (Option.bind (rdI (z_45.1.2.2.1 26) 121 x1) fun v_47 => Option.bind (T.2.1 z_45.1 v_47) fun z_48 => m_eval_b310 F T z_48.1 z_48.2)) else (if v_19 = 11 then (Option.bind (T.2.2.2 cs x1) fun z_43 => some (z_43.1, z_43.2)) else (Option.bind (rdI (cs.2.2.1 24) 121 x1) fun v_32 => Option.bind (T.2.1 cs v_32) fun z_33 => if v_19 = 17 then (if (z_33.1.1 92) = 0 then (Option.bind (m_some F z_33.1 (-z_33.2)) fun z_41 => m_eval_b364 F T z_41.1 z_41.2) else (Option.bind (m_nothing0 F z_33.1 ) fun z_42 => m_eval_b364 F T z_42.1 z_42.2)) else (Option.bind (rdI (z_33.1.2.2.1 25) 121 x1) fun v_35 => Option.bind (T.2.1 z_33.1 v_35) fun z_36 => if (z_33.1.1 92) = 0 then (if (z_36.1.1 92) = 0 then (Option.bind (m_some2 F z_36.1 x1 v_19 z_33.2 z_36.2) fun z_39 => some (z_39.1, z_39.2)) else (m_eval_b389 F T z_36.1)) else (m_eval_b389 F T z_36.1))))))))) else (Option.bind (T.2.2.1 cs x1 v_19) fun z_58 => some (z_58.1, z_58.2)))))))
theorem dX12_aggregated_0 : decode cX12_aggregated 0 = .ok (.lconst 0, 1) := by decide +kernel
theorem dX12_aggregated_1 : decode cX12_aggregated 1 = .ok (.lstore_n 3, 1) := by decide +kernel
theorem dX12_aggregated_2 : decode cX12_aggregated 2 = .ok (.lconst 0, 1) := by decide +kernel
theorem dX12_aggregated_3 : decode cX12_aggregated 3 = .ok (.lstore 5, 2) := by decide +kernel
theorem dX12_aggregated_5 : decode cX12_aggregated 5 = .ok (.iconst 0, 1) := by decide +kernel
theorem dX12_aggregated_6 : decode cX12_aggregated 6 = .ok (.istore 7, 2) := by decide +kernel
theorem dX12_aggregated_8 : decode cX12_aggregated 8 = .ok (.aload_n 0, 1) := by decide +kernel
theorem dX12_aggregated_9 : decode cX12_aggregated 9 = .ok (.getfield 615, 3) := by decide +kernel
theorem dX12_aggregated_12 : decode cX12_aggregated 12 = .ok (.istore 8, 2) := by decide +kernel
theorem dX12_aggregated_14 : decode cX12_aggregated 14 = .ok (.aload_n 0, 1) := by decide +kernel
theorem dX12_aggregated_15 : decode cX12_aggregated 15 = .ok (.getfield 621, 3) := by decide +kernel
theorem dX12_aggregated_18 : decode cX12_aggregated 18 = .ok (.istore 9, 2) := by decide +kernel
theorem dX12_aggregated_20 : decode cX12_aggregated 20 = .ok (.aload_n 0, 1) := by decide +kernel
theorem dX12_aggregated_21 : decode cX12_aggregated 21 = .ok (.iconst 0, 1) := by decide +kernel
theorem dX12_aggregated_22 : decode cX12_aggregated 22 = .ok (.putfield 615, 3) := by decide +kernel
theorem dX12_aggregated_25 : decode cX12_aggregated 25 = .ok (.iconst 0, 1) := by decide +kernel
theorem dX12_aggregated_26 : decode cX12_aggregated 26 = .ok (.istore 10, 2) := by decide +kernel
theorem dX12_aggregated_28 : decode cX12_aggregated 28 = .ok (.iload 10, 2) := by decide +kernel
theorem dX12_aggregated_30 : decode cX12_aggregated 30 = .ok (.aload_n 0, 1) := by decide +kernel
theorem dX12_aggregated_31 : decode cX12_aggregated 31 = .ok (.getfield 203, 3) := by decide +kernel
theorem dX12_aggregated_34 : decode cX12_aggregated 34 = .ok (.aload_n 0, 1) := by decide +kernel
theorem dX12_aggregated_35 : decode cX12_aggregated 35 = .ok (.getfield 647, 3) := by decide +kernel
theorem dX12_aggregated_38 : decode cX12_aggregated 38 = .ok (.iaload, 1) := by decide +kernel
theorem dX12_aggregated_39 : decode cX12_aggregated 39 = .ok (.if_icmp .ge 129, 3) := by decide +kernel
theorem dX12_aggregated_42 : decode cX12_aggregated 42 = .ok (.aload_n 0, 1) := by decide +kernel
theorem dX12_aggregated_43 : decode cX12_aggregated 43 = .ok (.getfield 209, 3) := by decide +kernel
theorem dX12_aggregated_46 : decode cX12_aggregated 46 = .ok (.iload 10, 2) := by decide +kernel
theorem dX12_aggregated_48 : decode cX12_aggregated 48 = .ok (.iaload, 1) := by decide +kernel
theorem dX12_aggregated_49 : decode cX12_aggregated 49 = .ok (.aload_n 0, 1) := by decide +kernel
theorem dX12_aggregated_50 : decode cX12_aggregated 50 = .ok (.getfield 650, 3) := by decide +kernel
theorem dX12_aggregated_53 : decode cX12_aggregated 53 = .ok (.if_icmp .ne 109, 3) := by decide +kernel
theorem dX12_aggregated_56 : decode cX12_aggregated 56 = .ok (.iload_n 2, 1) := by decide +kernel
theorem dX12_aggregated_57 : decode cX12_aggregated 57 = .ok (.bipush 20, 2) := by decide +kernel
theorem dX12_aggregated_59 : decode cX12_aggregated 59 = .ok (.if_icmp .ne 10, 3) := by decide +kernel
theorem dX12_aggregated_62 : decode cX12_aggregated 62 = .ok (.lload_n 3, 1) := by decide +kernel
theorem dX12_aggregated_63 : decode cX12_aggregated 63 = .ok (.lconst 1, 1) := by decide +kernel
theorem dX12_aggregated_64 : decode cX12_aggregated 64 = .ok (.ladd, 1) := by decide +kernel
theorem dX12_aggregated_65 : decode cX12_aggregated 65 = .ok (.lstore_n 3, 1) := by decide +kernel
theorem dX12_aggregated_66 : decode cX12_aggregated 66 = .ok (.goto 96, 3) := by decide +kernel
theorem dX12_aggregated_69 : decode cX12_aggregated 69 = .ok (.aload_n 0, 1) := by decide +kernel
theorem dX12_aggregated_70 : decode cX12_aggregated 70 = .ok (.aload_n 0, 1) := by decide +kernel
theorem dX12_aggregated_71 : decode cX12_aggregated 71 = .ok (.aload_n 0, 1) := by decide +kernel
theorem dX12_aggregated_72 : decode cX12_aggregated 72 = .ok (.getfield 647, 3) := by decide +kernel
theorem dX12_aggregated_75 : decode cX12_aggregated 75 = .ok (.iload 10, 2) := by decide +kernel
theorem dX12_aggregated_77 : decode cX12_aggregated 77 = .ok (.invokevirtual 653, 3) := by decide +kernel
theorem dX12_aggregated_80 : decode cX12_aggregated 80 = .ok (.putfield 621, 3) := by decide +kernel
theorem dX12_aggregated_83 : decode cX12_aggregated 83 = .ok (.aload_n 0, 1) := by decide +kernel
theorem dX12_aggregated_84 : decode cX12_aggregated 84 = .ok (.aload_n 0, 1) := by decide +kernel
theorem dX12_aggregated_85 : decode cX12_aggregated 85 = .ok (.getfield 55, 3) := by decide +kernel
theorem dX12_aggregated_88 : decode cX12_aggregated 88 = .ok (.iload_n 1, 1) := by decide +kernel
theorem dX12_aggregated_89 : decode cX12_aggregated 89 = .ok (.iaload, 1) := by decide +kernel
theorem dX12_aggregated_90 : decode cX12_aggregated 90 = .ok (.invokevirtual 600, 3) := by decide +kernel
theorem dX12_aggregated_93 : decode cX12_aggregated 93 = .ok (.lstore 11, 2) := by decide +kernel
theorem dX12_aggregated_95 : decode cX12_aggregated 95 = .ok (.aload_n 0, 1) := by decide +kernel
theorem dX12_aggregated_96 : decode cX12_aggregated 96 = .ok (.getfield 604, 3) := by decide +kernel
theorem dX12_aggregated_99 : decode cX12_aggregated 99 = .ok (.ifCond .ne 63, 3) := by decide +kernel
theorem dX12_aggregated_102 : decode cX12_aggregated 102 = .ok (.lload_n 3, 1) := by decide +kernel
theorem dX12_aggregated_103 : decode cX12_aggregated 103 = .ok (.lconst 1, 1) := by decide +kernel
theorem dX12_aggregated_104 : decode cX12_aggregated 104 = .ok (.ladd, 1) := by decide +kernel
theorem dX12_aggregated_105 : decode cX12_aggregated 105 = .ok (.lstore_n 3, 1) := by decide +kernel
theorem dX12_aggregated_106 : decode cX12_aggregated 106 = .ok (.iload_n 2, 1) := by decide +kernel
theorem dX12_aggregated_107 : decode cX12_aggregated 107 = .ok (.bipush 22, 2) := by decide +kernel
theorem dX12_aggregated_109 : decode cX12_aggregated 109 = .ok (.if_icmp .ne 11, 3) := by decide +kernel
theorem dX12_aggregated_112 : decode cX12_aggregated 112 = .ok (.lload 5, 2) := by decide +kernel
theorem dX12_aggregated_114 : decode cX12_aggregated 114 = .ok (.lload 11, 2) := by decide +kernel
theorem dX12_aggregated_116 : decode cX12_aggregated 116 = .ok (.ladd, 1) := by decide +kernel
theorem dX12_aggregated_117 : decode cX12_aggregated 117 = .ok (.goto 40, 3) := by decide +kernel
theorem dX12_aggregated_120 : decode cX12_aggregated 120 = .ok (.iload 7, 2) := by decide +kernel
theorem dX12_aggregated_122 : decode cX12_aggregated 122 = .ok (.ifCond .eq 28, 3) := by decide +kernel
theorem dX12_aggregated_125 : decode cX12_aggregated 125 = .ok (.iload_n 2, 1) := by decide +kernel
theorem dX12_aggregated_126 : decode cX12_aggregated 126 = .ok (.bipush 23, 2) := by decide +kernel
theorem dX12_aggregated_128 : decode cX12_aggregated 128 = .ok (.if_icmp .ne 14, 3) := by decide +kernel
theorem dX12_aggregated_131 : decode cX12_aggregated 131 = .ok (.lload 11, 2) := by decide +kernel
theorem dX12_aggregated_133 : decode cX12_aggregated 133 = .ok (.lload 5, 2) := by decide +kernel
theorem dX12_aggregated_135 : decode cX12_aggregated 135 = .ok (.lcmp, 1) := by decide +kernel
theorem dX12_aggregated_136 : decode cX12_aggregated 136 = .ok (.ifCond .ge 19, 3) := by decide +kernel
theorem dX12_aggregated_139 : decode cX12_aggregated 139 = .ok (.goto 11, 3) := by decide +kernel
theorem dX12_aggregated_142 : decode cX12_aggregated 142 = .ok (.lload 11, 2) := by decide +kernel
theorem dX12_aggregated_144 : decode cX12_aggregated 144 = .ok (.lload 5, 2) := by decide +kernel
theorem dX12_aggregated_146 : decode cX12_aggregated 146 = .ok (.lcmp, 1) := by decide +kernel
theorem dX12_aggregated_147 : decode cX12_aggregated 147 = .ok (.ifCond .le 8, 3) := by decide +kernel
theorem dX12_aggregated_150 : decode cX12_aggregated 150 = .ok (.lload 11, 2) := by decide +kernel
theorem dX12_aggregated_152 : decode cX12_aggregated 152 = .ok (.goto 5, 3) := by decide +kernel
theorem dX12_aggregated_155 : decode cX12_aggregated 155 = .ok (.lload 5, 2) := by decide +kernel
theorem dX12_aggregated_157 : decode cX12_aggregated 157 = .ok (.lstore 5, 2) := by decide +kernel
theorem dX12_aggregated_159 : decode cX12_aggregated 159 = .ok (.iconst 1, 1) := by decide +kernel
theorem dX12_aggregated_160 : decode cX12_aggregated 160 = .ok (.istore 7, 2) := by decide +kernel
theorem dX12_aggregated_162 : decode cX12_aggregated 162 = .ok (.iinc 10 1, 3) := by decide +kernel
theorem dX12_aggregated_165 : decode cX12_aggregated 165 = .ok (.goto (-137), 3) := by decide +kernel
theorem dX12_aggregated_168 : decode cX12_aggregated 168 = .ok (.aload_n 0, 1) := by decide +kernel
theorem dX12_aggregated_169 : decode cX12_aggregated 169 = .ok (.iload 8, 2) := by decide +kernel
theorem dX12_aggregated_171 : decode cX12_aggregated 171 = .ok (.putfield 615, 3) := by decide +kernel
theorem dX12_aggregated_174 : decode cX12_aggregated 174 = .ok (.aload_n 0, 1) := by decide +kernel
theorem dX12_aggregated_175 : decode cX12_aggregated 175 = .ok (.iload 9, 2) := by decide +kernel
theorem dX12_aggregated_177 : decode cX12_aggregated 177 = .ok (.putfield 621, 3) := by decide +kernel
theorem dX12_aggregated_180 : decode cX12_aggregated 180 = .ok (.iload_n 2, 1) := by decide +kernel
theorem dX12_aggregated_181 : decode cX12_aggregated 181 = .ok (.bipush 20, 2) := by decide +kernel
theorem dX12_aggregated_183 : decode cX12_aggregated 183 = .ok (.if_icmp .eq 9, 3) := by decide +kernel
theorem dX12_aggregated_186 : decode cX12_aggregated 186 = .ok (.iload_n 2, 1) := by decide +kernel
theorem dX12_aggregated_187 : decode cX12_aggregated 187 = .ok (.bipush 21, 2) := by decide +kernel
theorem dX12_aggregated_189 : decode cX12_aggregated 189 = .ok (.if_icmp .ne 9, 3) := by decide +kernel
theorem dX12_aggregated_192 : decode cX12_aggregated 192 = .ok (.aload_n 0, 1) := by decide +kernel
theorem dX12_aggregated_193 : decode cX12_aggregated 193 = .ok (.lload_n 3, 1) := by decide +kernel
theorem dX12_aggregated_194 : decode cX12_aggregated 194 = .ok (.invokevirtual 611, 3) := by decide +kernel
theorem dX12_aggregated_197 : decode cX12_aggregated 197 = .ok (.lreturn, 1) := by decide +kernel
theorem dX12_aggregated_198 : decode cX12_aggregated 198 = .ok (.iload 7, 2) := by decide +kernel
theorem dX12_aggregated_200 : decode cX12_aggregated 200 = .ok (.ifCond .eq 12, 3) := by decide +kernel
theorem dX12_aggregated_203 : decode cX12_aggregated 203 = .ok (.aload_n 0, 1) := by decide +kernel
theorem dX12_aggregated_204 : decode cX12_aggregated 204 = .ok (.lload 5, 2) := by decide +kernel
theorem dX12_aggregated_206 : decode cX12_aggregated 206 = .ok (.invokevirtual 611, 3) := by decide +kernel
theorem dX12_aggregated_209 : decode cX12_aggregated 209 = .ok (.goto 7, 3) := by decide +kernel
theorem dX12_aggregated_212 : decode cX12_aggregated 212 = .ok (.aload_n 0, 1) := by decide +kernel
theorem dX12_aggregated_213 : decode cX12_aggregated 213 = .ok (.invokevirtual 607, 3) := by decide +kernel
theorem dX12_aggregated_216 : decode cX12_aggregated 216 = .ok (.lreturn, 1) := by decide +kernel
def m_aggregated_b192 (F : Nat) (T : TG_truth) (cs1 : RS) (u3 : Int64) : Option (RS × Int64) := Option.bind (m_some F cs1 u3) fun z_1 => some (z_1.1, z_1.2)
def m_aggregated_b216 (F : Nat) (T : TG_truth) (cs1 : RS) (y0 : Int64) : Option (RS × Int64) := some (cs1, y0)
def m_aggregated_b162 (F : Nat) (T : TG_truth) (rc28 : RS → Int32 → Int32 → Int64 → Int64 → Int32 → Int32 → Int32 → Int32 → Option (RS × Int64)) (cs1 : RS) (u1 : Int32) (u2 : Int32) (u3 : Int64) (u5 : Int64) (u7 : Int32) (u8 : Int32) (u9 : Int32) (u10 : Int32) : Option (RS × Int64) := rc28 cs1 u1 u2 u3 u5 u7 u8 u9 (u10 + 1)
def m_aggregated_b157 (F : Nat) (T : TG_truth) (rc28 : RS → Int32 → Int32 → Int64 → Int64 → Int32 → Int32 → Int32 → Int32 → Option (RS × Int64)) (cs1 : RS) (u1 : Int32) (u2 : Int32) (u3 : Int64) (u8 : Int32) (u9 : Int32) (u10 : Int32) (y0 : Int64) : Option (RS × Int64) := m_aggregated_b162 F T rc28 cs1 u1 u2 u3 y0 1 u8 u9 u10
def m_aggregated_b150 (F : Nat) (T : TG_truth) (rc28 : RS → Int32 → Int32 → Int64 → Int64 → Int32 → Int32 → Int32 → Int32 → Option (RS × Int64)) (cs1 : RS) (u1 : Int32) (u2 : Int32) (u3 : Int64) (u8 : Int32) (u9 : Int32) (u10 : Int32) (u11 : Int64) : Option (RS × Int64) := m_aggregated_b157 F T rc28 cs1 u1 u2 u3 u8 u9 u10 u11
def m_aggregated_b155 (F : Nat) (T : TG_truth) (rc28 : RS → Int32 → Int32 → Int64 → Int64 → Int32 → Int32 → Int32 → Int32 → Option (RS × Int64)) (cs1 : RS) (u1 : Int32) (u2 : Int32) (u3 : Int64) (u5 : Int64) (u8 : Int32) (u9 : Int32) (u10 : Int32) : Option (RS × Int64) := m_aggregated_b157 F T rc28 cs1 u1 u2 u3 u8 u9 u10 u5
def m_aggregated_L28 (F : Nat) (T : TG_truth) : Nat → RS → Int32 → Int32 → Int64 → Int64 → Int32 → Int32 → Int32 → Int32 → Option (RS × Int64)
  | 0, _, _, _, _, _, _, _, _, _ => none
  | lf_28 + 1, cs1, u1, u2, u3, u5, u7, u8, u9, u10 => Option.bind (rdI (cs1.2.2.1 89) 400 (cs1.1 95)) fun v_2 => if v_2 ≤ u10 then (Option.bind (ckZ u8) fun _ => if u2 = 20 then (m_aggregated_b192 F T (setF (setF cs1 97 u8) 93 u9) u3) else (if u2 = 21 then (m_aggregated_b192 F T (setF (setF cs1 97 u8) 93 u9) u3) else (if u7 = 0 then (Option.bind (m_nothing0 F (setF (setF cs1 97 u8) 93 u9) ) fun z_8 => m_aggregated_b216 F T z_8.1 z_8.2) else (Option.bind (m_some F (setF (setF cs1 97 u8) 93 u9) u5) fun z_9 => m_aggregated_b216 F T z_9.1 z_9.2)))) else (Option.bind (rdI (cs1.2.2.1 98) 600 u10) fun v_10 => if v_10 = (cs1.1 96) then (if u2 = 20 then (m_aggregated_b162 F T (m_aggregated_L28 F T lf_28) cs1 u1 u2 (u3 + 1) u5 u7 u8 u9 u10) else (Option.bind (m_rowAt F cs1 (cs1.1 95) u10) fun v_13 => Option.bind (rdI ((setF cs1 93 v_13).2.2.1 24) 121 u1) fun v_14 => Option.bind (T.2.1 (setF cs1 93 v_13) v_14) fun z_15 => if (z_15.1.1 92) = 0 then (if u2 = 22 then (m_aggregated_b157 F T (m_aggregated_L28 F T lf_28) z_15.1 u1 u2 (u3 + 1) u8 u9 u10 (u5 + z_15.2)) else (if u7 = 0 then (m_aggregated_b150 F T (m_aggregated_L28 F T lf_28) z_15.1 u1 u2 (u3 + 1) u8 u9 u10 z_15.2) else (if u2 = 23 then (if u5 ≤ z_15.2 then (m_aggregated_b155 F T (m_aggregated_L28 F T lf_28) z_15.1 u1 u2 (u3 + 1) u5 u8 u9 u10) else (m_aggregated_b150 F T (m_aggregated_L28 F T lf_28) z_15.1 u1 u2 (u3 + 1) u8 u9 u10 z_15.2)) else (if z_15.2 ≤ u5 then (m_aggregated_b155 F T (m_aggregated_L28 F T lf_28) z_15.1 u1 u2 (u3 + 1) u5 u8 u9 u10) else (m_aggregated_b150 F T (m_aggregated_L28 F T lf_28) z_15.1 u1 u2 (u3 + 1) u8 u9 u10 z_15.2))))) else (m_aggregated_b162 F T (m_aggregated_L28 F T lf_28) z_15.1 u1 u2 u3 u5 u7 u8 u9 u10))) else (m_aggregated_b162 F T (m_aggregated_L28 F T lf_28) cs1 u1 u2 u3 u5 u7 u8 u9 u10))
def b_aggregated (F : Nat) (T : TG_truth) (cs : RS) (x1 : Int32) (x2 : Int32) : Option (RS × Int64) := m_aggregated_L28 F T F (setF cs 97 0) x1 x2 0 0 0 (cs.1 97) (cs.1 93) 0
theorem dX12_isOneOf_0 : decode cX12_isOneOf 0 = .ok (.aload_n 0, 1) := by decide +kernel
theorem dX12_isOneOf_1 : decode cX12_isOneOf 1 = .ok (.aload_n 0, 1) := by decide +kernel
theorem dX12_isOneOf_2 : decode cX12_isOneOf 2 = .ok (.getfield 55, 3) := by decide +kernel
theorem dX12_isOneOf_5 : decode cX12_isOneOf 5 = .ok (.iload_n 1, 1) := by decide +kernel
theorem dX12_isOneOf_6 : decode cX12_isOneOf 6 = .ok (.iaload, 1) := by decide +kernel
theorem dX12_isOneOf_7 : decode cX12_isOneOf 7 = .ok (.invokevirtual 600, 3) := by decide +kernel
theorem dX12_isOneOf_10 : decode cX12_isOneOf 10 = .ok (.lstore_n 2, 1) := by decide +kernel
theorem dX12_isOneOf_11 : decode cX12_isOneOf 11 = .ok (.aload_n 0, 1) := by decide +kernel
theorem dX12_isOneOf_12 : decode cX12_isOneOf 12 = .ok (.getfield 604, 3) := by decide +kernel
theorem dX12_isOneOf_15 : decode cX12_isOneOf 15 = .ok (.istore 4, 2) := by decide +kernel
theorem dX12_isOneOf_17 : decode cX12_isOneOf 17 = .ok (.iload 4, 2) := by decide +kernel
theorem dX12_isOneOf_19 : decode cX12_isOneOf 19 = .ok (.ifCond .eq 7, 3) := by decide +kernel
theorem dX12_isOneOf_22 : decode cX12_isOneOf 22 = .ok (.iconst 2, 1) := by decide +kernel
theorem dX12_isOneOf_23 : decode cX12_isOneOf 23 = .ok (.goto 4, 3) := by decide +kernel
theorem dX12_isOneOf_26 : decode cX12_isOneOf 26 = .ok (.iconst 0, 1) := by decide +kernel
theorem dX12_isOneOf_27 : decode cX12_isOneOf 27 = .ok (.istore 5, 2) := by decide +kernel
theorem dX12_isOneOf_29 : decode cX12_isOneOf 29 = .ok (.aload_n 0, 1) := by decide +kernel
theorem dX12_isOneOf_30 : decode cX12_isOneOf 30 = .ok (.getfield 58, 3) := by decide +kernel
theorem dX12_isOneOf_33 : decode cX12_isOneOf 33 = .ok (.iload_n 1, 1) := by decide +kernel
theorem dX12_isOneOf_34 : decode cX12_isOneOf 34 = .ok (.iaload, 1) := by decide +kernel
theorem dX12_isOneOf_35 : decode cX12_isOneOf 35 = .ok (.istore 6, 2) := by decide +kernel
theorem dX12_isOneOf_37 : decode cX12_isOneOf 37 = .ok (.iload 6, 2) := by decide +kernel
theorem dX12_isOneOf_39 : decode cX12_isOneOf 39 = .ok (.iconst (-1), 1) := by decide +kernel
theorem dX12_isOneOf_40 : decode cX12_isOneOf 40 = .ok (.if_icmp .eq 61, 3) := by decide +kernel
theorem dX12_isOneOf_43 : decode cX12_isOneOf 43 = .ok (.aload_n 0, 1) := by decide +kernel
theorem dX12_isOneOf_44 : decode cX12_isOneOf 44 = .ok (.iload 6, 2) := by decide +kernel
theorem dX12_isOneOf_46 : decode cX12_isOneOf 46 = .ok (.invokevirtual 600, 3) := by decide +kernel
theorem dX12_isOneOf_49 : decode cX12_isOneOf 49 = .ok (.lstore 7, 2) := by decide +kernel
theorem dX12_isOneOf_51 : decode cX12_isOneOf 51 = .ok (.aload_n 0, 1) := by decide +kernel
theorem dX12_isOneOf_52 : decode cX12_isOneOf 52 = .ok (.getfield 604, 3) := by decide +kernel
theorem dX12_isOneOf_55 : decode cX12_isOneOf 55 = .ok (.ifCond .eq 19, 3) := by decide +kernel
theorem dX12_isOneOf_58 : decode cX12_isOneOf 58 = .ok (.iload 5, 2) := by decide +kernel
theorem dX12_isOneOf_60 : decode cX12_isOneOf 60 = .ok (.iconst 1, 1) := by decide +kernel
theorem dX12_isOneOf_61 : decode cX12_isOneOf 61 = .ok (.if_icmp .ne 7, 3) := by decide +kernel
theorem dX12_isOneOf_64 : decode cX12_isOneOf 64 = .ok (.iconst 1, 1) := by decide +kernel
theorem dX12_isOneOf_65 : decode cX12_isOneOf 65 = .ok (.goto 4, 3) := by decide +kernel
theorem dX12_isOneOf_68 : decode cX12_isOneOf 68 = .ok (.iconst 2, 1) := by decide +kernel
theorem dX12_isOneOf_69 : decode cX12_isOneOf 69 = .ok (.istore 5, 2) := by decide +kernel
theorem dX12_isOneOf_71 : decode cX12_isOneOf 71 = .ok (.goto 18, 3) := by decide +kernel
theorem dX12_isOneOf_74 : decode cX12_isOneOf 74 = .ok (.iload 4, 2) := by decide +kernel
theorem dX12_isOneOf_76 : decode cX12_isOneOf 76 = .ok (.ifCond .ne 13, 3) := by decide +kernel
theorem dX12_isOneOf_79 : decode cX12_isOneOf 79 = .ok (.lload 7, 2) := by decide +kernel
theorem dX12_isOneOf_81 : decode cX12_isOneOf 81 = .ok (.lload_n 2, 1) := by decide +kernel
theorem dX12_isOneOf_82 : decode cX12_isOneOf 82 = .ok (.lcmp, 1) := by decide +kernel
theorem dX12_isOneOf_83 : decode cX12_isOneOf 83 = .ok (.ifCond .ne 6, 3) := by decide +kernel
theorem dX12_isOneOf_86 : decode cX12_isOneOf 86 = .ok (.iconst 1, 1) := by decide +kernel
theorem dX12_isOneOf_87 : decode cX12_isOneOf 87 = .ok (.istore 5, 2) := by decide +kernel
theorem dX12_isOneOf_89 : decode cX12_isOneOf 89 = .ok (.aload_n 0, 1) := by decide +kernel
theorem dX12_isOneOf_90 : decode cX12_isOneOf 90 = .ok (.getfield 79, 3) := by decide +kernel
theorem dX12_isOneOf_93 : decode cX12_isOneOf 93 = .ok (.iload 6, 2) := by decide +kernel
theorem dX12_isOneOf_95 : decode cX12_isOneOf 95 = .ok (.iaload, 1) := by decide +kernel
theorem dX12_isOneOf_96 : decode cX12_isOneOf 96 = .ok (.istore 6, 2) := by decide +kernel
theorem dX12_isOneOf_98 : decode cX12_isOneOf 98 = .ok (.goto (-61), 3) := by decide +kernel
theorem dX12_isOneOf_101 : decode cX12_isOneOf 101 = .ok (.aload_n 0, 1) := by decide +kernel
theorem dX12_isOneOf_102 : decode cX12_isOneOf 102 = .ok (.iload 5, 2) := by decide +kernel
theorem dX12_isOneOf_104 : decode cX12_isOneOf 104 = .ok (.iconst 2, 1) := by decide +kernel
theorem dX12_isOneOf_105 : decode cX12_isOneOf 105 = .ok (.if_icmp .ne 7, 3) := by decide +kernel
theorem dX12_isOneOf_108 : decode cX12_isOneOf 108 = .ok (.iconst 2, 1) := by decide +kernel
theorem dX12_isOneOf_109 : decode cX12_isOneOf 109 = .ok (.goto 22, 3) := by decide +kernel
theorem dX12_isOneOf_112 : decode cX12_isOneOf 112 = .ok (.aload_n 0, 1) := by decide +kernel
theorem dX12_isOneOf_113 : decode cX12_isOneOf 113 = .ok (.getfield 64, 3) := by decide +kernel
theorem dX12_isOneOf_116 : decode cX12_isOneOf 116 = .ok (.iload_n 1, 1) := by decide +kernel
theorem dX12_isOneOf_117 : decode cX12_isOneOf 117 = .ok (.iaload, 1) := by decide +kernel
theorem dX12_isOneOf_118 : decode cX12_isOneOf 118 = .ok (.iconst 1, 1) := by decide +kernel
theorem dX12_isOneOf_119 : decode cX12_isOneOf 119 = .ok (.if_icmp .ne 10, 3) := by decide +kernel
theorem dX12_isOneOf_122 : decode cX12_isOneOf 122 = .ok (.iconst 1, 1) := by decide +kernel
theorem dX12_isOneOf_123 : decode cX12_isOneOf 123 = .ok (.iload 5, 2) := by decide +kernel
theorem dX12_isOneOf_125 : decode cX12_isOneOf 125 = .ok (.isub, 1) := by decide +kernel
theorem dX12_isOneOf_126 : decode cX12_isOneOf 126 = .ok (.goto 5, 3) := by decide +kernel
theorem dX12_isOneOf_129 : decode cX12_isOneOf 129 = .ok (.iload 5, 2) := by decide +kernel
theorem dX12_isOneOf_131 : decode cX12_isOneOf 131 = .ok (.invokevirtual 635, 3) := by decide +kernel
theorem dX12_isOneOf_134 : decode cX12_isOneOf 134 = .ok (.lreturn, 1) := by decide +kernel
def m_isOneOf_b131 (F : Nat) (T : TG_truth) (cs1 : RS) (y0 : Int32) : Option (RS × Int64) := Option.bind (m_ofTruth F cs1 y0) fun z_1 => some (z_1.1, z_1.2)
def m_isOneOf_b89 (F : Nat) (T : TG_truth) (rc37 : RS → Int32 → Int64 → Int32 → Int32 → Int32 → Option (RS × Int64)) (cs1 : RS) (u1 : Int32) (u2 : Int64) (u4 : Int32) (u5 : Int32) (u6 : Int32) : Option (RS × Int64) := Option.bind (rdI (cs1.2.2.1 32) 121 u6) fun v_2 => rc37 cs1 u1 u2 u4 u5 v_2
def m_isOneOf_b69 (F : Nat) (T : TG_truth) (rc37 : RS → Int32 → Int64 → Int32 → Int32 → Int32 → Option (RS × Int64)) (cs1 : RS) (u1 : Int32) (u2 : Int64) (u4 : Int32) (u6 : Int32) (y0 : Int32) : Option (RS × Int64) := m_isOneOf_b89 F T rc37 cs1 u1 u2 u4 y0 u6
def m_isOneOf_L37 (F : Nat) (T : TG_truth) : Nat → RS → Int32 → Int64 → Int32 → Int32 → Int32 → Option (RS × Int64)
  | 0, _, _, _, _, _, _ => none
  | lf_37 + 1, cs1, u1, u2, u4, u5, u6 => if u6 = (-1) then (if u5 = 2 then (m_isOneOf_b131 F T cs1 2) else (Option.bind (rdI (cs1.2.2.1 27) 121 u1) fun v_5 => if v_5 = 1 then (m_isOneOf_b131 F T cs1 (1 - u5)) else (m_isOneOf_b131 F T cs1 u5))) else (Option.bind (T.2.1 cs1 u6) fun z_7 => if (z_7.1.1 92) = 0 then (if u4 = 0 then (if z_7.2 = u2 then (m_isOneOf_b89 F T (m_isOneOf_L37 F T lf_37) z_7.1 u1 u2 u4 1 u6) else (m_isOneOf_b89 F T (m_isOneOf_L37 F T lf_37) z_7.1 u1 u2 u4 u5 u6)) else (m_isOneOf_b89 F T (m_isOneOf_L37 F T lf_37) z_7.1 u1 u2 u4 u5 u6)) else (if u5 = 1 then (m_isOneOf_b69 F T (m_isOneOf_L37 F T lf_37) z_7.1 u1 u2 u4 u6 1) else (m_isOneOf_b69 F T (m_isOneOf_L37 F T lf_37) z_7.1 u1 u2 u4 u6 2)))
def m_isOneOf_b27 (F : Nat) (T : TG_truth) (cs1 : RS) (u1 : Int32) (u2 : Int64) (u4 : Int32) (y0 : Int32) : Option (RS × Int64) := Option.bind (rdI (cs1.2.2.1 25) 121 u1) fun v_12 => m_isOneOf_L37 F T F cs1 u1 u2 u4 y0 v_12
def b_isOneOf (F : Nat) (T : TG_truth) (cs : RS) (x1 : Int32) : Option (RS × Int64) := Option.bind (rdI (cs.2.2.1 24) 121 x1) fun v_13 => Option.bind (T.2.1 cs v_13) fun z_14 => if (z_14.1.1 92) = 0 then (m_isOneOf_b27 F T z_14.1 x1 z_14.2 (z_14.1.1 92) 0) else (m_isOneOf_b27 F T z_14.1 x1 z_14.2 (z_14.1.1 92) 2)
def tab_truth (F : Nat) : Nat → TG_truth
  | 0 => (fun _ _ => none, fun _ _ => none, fun _ _ _ => none, fun _ _ => none)
  | n + 1 => (b_truth F (tab_truth F n), b_eval F (tab_truth F n), b_aggregated F (tab_truth F n), b_isOneOf F (tab_truth F n))
theorem cw_truth {R : Room} {s : State} {args : Array Value} {y0 : MethodName} {c0 : ByteArray} {n0 : Nat} {r0 : Option FieldType} (hts : ∀ w ∈ wsOf y0 c0 n0 r0, w.before args s = true) {fr : Nat} (h1 : fr + 1 ≤ R.frames) (h2 : 8 + (4 + 11) + 60 * fr ≤ R.locals) : CallW R s args RX12 RX12 628 yX12_truth cX12_truth 4 (some .int) (wsOf yX12_truth cX12_truth 4 (some .int)) ({ frames := fr, cells := 0, slots := 0, locals := 60 * fr } : Room) 0 0 1 := cwV 1 hts (gd_all (in_V kw_2117 kw_2119 kw_110 kw_191 kc_X12_truth)) rfl rfl rfl (by decide +kernel) ⟨h1, h2⟩
theorem cw_eval {R : Room} {s : State} {args : Array Value} {y0 : MethodName} {c0 : ByteArray} {n0 : Nat} {r0 : Option FieldType} (hts : ∀ w ∈ wsOf y0 c0 n0 r0, w.before args s = true) {fr : Nat} (h1 : fr + 1 ≤ R.frames) (h2 : 8 + (8 + 11) + 60 * fr ≤ R.locals) : CallW R s args RX12 RX12 600 yX12_eval cX12_eval 8 (some .long) (wsOf yX12_eval cX12_eval 8 (some .long)) ({ frames := fr, cells := 0, slots := 0, locals := 60 * fr } : Room) 0 0 1 := cwV 1 hts (gd_all (in_V kw_2121 kw_2123 kw_111 kw_191 kc_X12_eval)) rfl rfl rfl (by decide +kernel) ⟨h1, h2⟩
theorem cw_aggregated {R : Room} {s : State} {args : Array Value} {y0 : MethodName} {c0 : ByteArray} {n0 : Nat} {r0 : Option FieldType} (hts : ∀ w ∈ wsOf y0 c0 n0 r0, w.before args s = true) {fr : Nat} (h1 : fr + 1 ≤ R.frames) (h2 : 8 + (13 + 11) + 60 * fr ≤ R.locals) : CallW R s args RX12 RX12 624 yX12_aggregated cX12_aggregated 13 (some .long) (wsOf yX12_aggregated cX12_aggregated 13 (some .long)) ({ frames := fr, cells := 0, slots := 0, locals := 60 * fr } : Room) 0 0 2 := cwV 2 hts (gd_all (in_V kw_2133 kw_2135 kw_114 kw_191 kc_X12_aggregated)) rfl rfl rfl (by decide +kernel) ⟨h1, h2⟩
theorem cw_isOneOf {R : Room} {s : State} {args : Array Value} {y0 : MethodName} {c0 : ByteArray} {n0 : Nat} {r0 : Option FieldType} (hts : ∀ w ∈ wsOf y0 c0 n0 r0, w.before args s = true) {fr : Nat} (h1 : fr + 1 ≤ R.frames) (h2 : 8 + (9 + 11) + 60 * fr ≤ R.locals) : CallW R s args RX12 RX12 638 yX12_isOneOf cX12_isOneOf 9 (some .long) (wsOf yX12_isOneOf cX12_isOneOf 9 (some .long)) ({ frames := fr, cells := 0, slots := 0, locals := 60 * fr } : Room) 0 0 1 := cwV 1 hts (gd_all (in_V kw_2144 kw_2146 kw_116 kw_191 kc_X12_isOneOf)) rfl rfl rfl (by decide +kernel) ⟨h1, h2⟩
set_option maxHeartbeats 4000000 in
set_option maxRecDepth 100000 in
theorem sb_truth (l : Launch) (dC : Nat → ClassId) (dI : Nat → Nat → Nat) (cB cI cJ cZ : ClassId) (h0 : Nat) (a : Nat → Nat) (K V : Nat → Nat) (fz : Value) (F : Nat) (n : Nat) (T : TG_truth) (hT_truth : ∀ (cs : RS) (x1 : Int32) (cs9 : RS) (r9 : Int32), T.1 cs x1 = some (cs9, r9) → okI l dC dI cB cI cJ cZ h0 a K V fz yX12_truth (wsOf yX12_truth cX12_truth 4 (some .int)) (n + 2) [.ref h0, .int x1] cs cs9 r9) (hT_eval : ∀ (cs : RS) (x1 : Int32) (cs9 : RS) (r9 : Int64), T.2.1 cs x1 = some (cs9, r9) → okL l dC dI cB cI cJ cZ h0 a K V fz yX12_eval (wsOf yX12_eval cX12_eval 8 (some .long)) (n + 2) [.ref h0, .int x1] cs cs9 r9) (hT_aggregated : ∀ (cs : RS) (x1 : Int32) (x2 : Int32) (cs9 : RS) (r9 : Int64), T.2.2.1 cs x1 x2 = some (cs9, r9) → okL l dC dI cB cI cJ cZ h0 a K V fz yX12_aggregated (wsOf yX12_aggregated cX12_aggregated 13 (some .long)) (n + 2) [.ref h0, .int x1, .int x2] cs cs9 r9) (hT_isOneOf : ∀ (cs : RS) (x1 : Int32) (cs9 : RS) (r9 : Int64), T.2.2.2 cs x1 = some (cs9, r9) → okL l dC dI cB cI cJ cZ h0 a K V fz yX12_isOneOf (wsOf yX12_isOneOf cX12_isOneOf 9 (some .long)) (n + 2) [.ref h0, .int x1] cs cs9 r9) (cs : RS) (x1 : Int32) (cs9 : RS) (r9 : Int32) (hf : b_truth F T cs x1 = some (cs9, r9)) : okI l dC dI cB cI cJ cZ h0 a K V fz yX12_truth (wsOf yX12_truth cX12_truth 4 (some .int)) (n + 1 + 2) [.ref h0, .int x1] cs cs9 r9 := by
  intro sz
  refine Met.ofW (cc := cX12_truth) (maxL := 4) (ret := (some .int)) (by decide) rfl ?_
  intro p e s m args below meth c s₁ B hml hv
  obtain ⟨rfl, hsz, hP, hK, hD0, hZ⟩ := hv
  have hx := B.exec
  have hb := B.bytes
  have hr := B.returns
  have hts := atoms_spec (ws := (wsOf yX12_truth cX12_truth 4 (some .int))) B.pre
  have hown : s.vm.findClass RX12 = some m.cls := findClass_of_methodNamed B.named
  have hlocks := B.notSynchronized
  subst hsz
  have hD := hD0.self (sz := s.heap.size)
  generalize hAe : va_A (mW cB cI cJ cZ h0 a cs) s.heap.size = A at hD hZ ⊢
  have hA : ∀ q : Nat, s.heap.size ≤ q → A q := fun q h => by rw [← hAe]; exact Or.inr h
  have hS : va_S A s.heap s.heap [] := va_S.rf
  have hl := lv_entry ([.ref h0, .int x1]) (n := 4) (Nat.le_of_ble_eq_true rfl)
  rw [lg_entry_eq]
  generalize (lg_sl ([.ref h0, .int x1]) ++ List.replicate (4 - (lg_sl ([.ref h0, .int x1])).length) Slot.unset).toArray = ls at hl ⊢
  have hl : lv_has ls 4 [(0, .ref h0), (1, .int x1)] := hl
  have B_28 : ∀ (cs1 : RS) (y0 : Int32), m_truth_b28 F T cs1 y0 = some (cs9, r9) → ∀ (H : Heap) (locs : List Loc) (ls : Array Slot), va_P (dC, dI) vwCl (mW cB cI cJ cZ h0 a cs1) H → va_D A (mW cB cI cJ cZ h0 a cs1) → va_S A s.heap H locs → lv_has ls 4 [] → W p l e (headSpec (wsOf yX12_truth cX12_truth 4 (some .int)) ({ frames := n + 1 + 2, cells := 0, slots := 0, locals := 60 * (n + 1 + 2) } : Room)).room s m ([.ref h0, .int x1] : List Value).toArray below meth c H locs 0 0 (MQ below (va_Qi (fun (x : Int32) (_ : Unit) => x = r9) (fun _ t_ => va_P (dC, dI) vwCl (mW cB cI cJ cZ h0 a cs9) t_.heap ∧ va_D A (mW cB cI cJ cZ h0 a cs9)) A) ([.ref h0, .int x1] : List Value).toArray s 0 0 A) (F0 m 28 ls [.int y0]) := by
    intro cs1 y0 h H locs ls hP hD hS hl
    unfold m_truth_b28 at h
    obtain ⟨e1, e2⟩ := Prod.mk.inj (Option.some.inj h)
    rw [e1] at hP hD
    exact W.iret (v := y0) hx hb hr (fun t_ ht hW => ⟨⟨y0, (), rfl, e2, by rw [ht]; exact hP, hD⟩, hS.F ht⟩) hS.2.2 dX12_truth_28
  have h := hf
  unfold b_truth at h
  refine lv_aload_n hx hb dX12_truth_0 rfl (lv_at hl 0 rfl) ?_
  refine lv_iload_n hx hb dX12_truth_1 rfl (lv_at hl 1 rfl) ?_
  obtain ⟨z_1, hv_1, h⟩ := ob h
  refine calL (As := [.int x1]) hx hb hml hts hown hK hP hD hS hA hZ (hT_eval cs x1 z_1.1 z_1.2 hv_1) (cw_eval hts (fr := n + 2) (by show n + 2 + 1 ≤ n + 1 + 2; omega) (by show 8 + (8 + 11) + 60 * (n + 2) ≤ 60 * (n + 1 + 2); omega)) rfl hl.1 (Nat.le_of_ble_eq_true rfl) ⟨Nat.zero_le _, Nat.zero_le _⟩ dX12_truth_2 (fun H locs hP hD hS => ?_)
  refine lv_lstore_n (lv' := [(2, .long z_1.2), (0, .ref h0), (1, .int x1)]) hx hb dX12_truth_5 rfl hl (by decide) rfl (fun ls hl => ?_)
  refine lv_aload_n hx hb dX12_truth_6 rfl (lv_at hl 1 rfl) ?_
  refine fg_92 hx hb hts hown hK hP dX12_truth_7 ?_
  refine lv_if_eq (tgt := 17) hx hb dX12_truth_10 (by decide) (fun c_2 => ?_) (fun c_2 => ?_)
  · skip
    replace h := (if_pos c_2).symm.trans h
    refine lv_lload_n hx hb dX12_truth_17 rfl (lv_at hl 0 rfl) ?_
    refine lv_lconst (v := 0) hx hb dX12_truth_18 (by decide) ?_
    refine W.lcmp hx hb dX12_truth_19 ?_
    refine lv_if_eq (tgt := 27) hx hb dX12_truth_20 (by decide) (fun c_3 => ?_) (fun c_3 => ?_)
    · skip
      have c_3 : z_1.2 = 0 := (lg_cmp_eq _ _).mp c_3
      replace h := (if_pos c_3).symm.trans h
      refine lv_iconst (v := 0) hx hb dX12_truth_27 (by decide) ?_
      exact B_28 z_1.1 0 h _ _ _ hP hD hS (lv_sub hl [] rfl)
    · skip
      have c_3 : ¬ (z_1.2 = 0) := fun h9 => c_3 ((lg_cmp_eq _ _).mpr h9)
      replace h := (if_neg c_3).symm.trans h
      refine lv_iconst (v := 1) hx hb dX12_truth_23 (by decide) ?_
      refine lv_goto (tgt := 28) hx hb dX12_truth_24 (by decide) ?_
      exact B_28 z_1.1 1 h _ _ _ hP hD hS (lv_sub hl [] rfl)
  · skip
    replace h := (if_neg c_2).symm.trans h
    refine lv_iconst (v := 2) hx hb dX12_truth_13 (by decide) ?_
    refine lv_goto (tgt := 28) hx hb dX12_truth_14 (by decide) ?_
    exact B_28 z_1.1 2 h _ _ _ hP hD hS (lv_sub hl [] rfl)
set_option maxHeartbeats 4000000 in
set_option maxRecDepth 100000 in
theorem sb_eval (l : Launch) (dC : Nat → ClassId) (dI : Nat → Nat → Nat) (cB cI cJ cZ : ClassId) (h0 : Nat) (a : Nat → Nat) (K V : Nat → Nat) (fz : Value) (F : Nat) (n : Nat) (T : TG_truth) (hT_truth : ∀ (cs : RS) (x1 : Int32) (cs9 : RS) (r9 : Int32), T.1 cs x1 = some (cs9, r9) → okI l dC dI cB cI cJ cZ h0 a K V fz yX12_truth (wsOf yX12_truth cX12_truth 4 (some .int)) (n + 2) [.ref h0, .int x1] cs cs9 r9) (hT_eval : ∀ (cs : RS) (x1 : Int32) (cs9 : RS) (r9 : Int64), T.2.1 cs x1 = some (cs9, r9) → okL l dC dI cB cI cJ cZ h0 a K V fz yX12_eval (wsOf yX12_eval cX12_eval 8 (some .long)) (n + 2) [.ref h0, .int x1] cs cs9 r9) (hT_aggregated : ∀ (cs : RS) (x1 : Int32) (x2 : Int32) (cs9 : RS) (r9 : Int64), T.2.2.1 cs x1 x2 = some (cs9, r9) → okL l dC dI cB cI cJ cZ h0 a K V fz yX12_aggregated (wsOf yX12_aggregated cX12_aggregated 13 (some .long)) (n + 2) [.ref h0, .int x1, .int x2] cs cs9 r9) (hT_isOneOf : ∀ (cs : RS) (x1 : Int32) (cs9 : RS) (r9 : Int64), T.2.2.2 cs x1 = some (cs9, r9) → okL l dC dI cB cI cJ cZ h0 a K V fz yX12_isOneOf (wsOf yX12_isOneOf cX12_isOneOf 9 (some .long)) (n + 2) [.ref h0, .int x1] cs cs9 r9) (cs : RS) (x1 : Int32) (cs9 : RS) (r9 : Int64) (hf : b_eval F T cs x1 = some (cs9, r9)) : okL l dC dI cB cI cJ cZ h0 a K V fz yX12_eval (wsOf yX12_eval cX12_eval 8 (some .long)) (n + 1 + 2) [.ref h0, .int x1] cs cs9 r9 := by
  intro sz
  refine Met.ofW (cc := cX12_eval) (maxL := 8) (ret := (some .long)) (by decide) rfl ?_
  intro p e s m args below meth c s₁ B hml hv
  obtain ⟨rfl, hsz, hP, hK, hD0, hZ⟩ := hv
  have hx := B.exec
  have hb := B.bytes
  have hr := B.returns
  have hts := atoms_spec (ws := (wsOf yX12_eval cX12_eval 8 (some .long))) B.pre
  have hown : s.vm.findClass RX12 = some m.cls := findClass_of_methodNamed B.named
  have hlocks := B.notSynchronized
  subst hsz
  have hD := hD0.self (sz := s.heap.size)
  generalize hAe : va_A (mW cB cI cJ cZ h0 a cs) s.heap.size = A at hD hZ ⊢
  have hA : ∀ q : Nat, s.heap.size ≤ q → A q := fun q h => by rw [← hAe]; exact Or.inr h
  have hS : va_S A s.heap s.heap [] := va_S.rf
  have hl := lv_entry ([.ref h0, .int x1]) (n := 8) (Nat.le_of_ble_eq_true rfl)
  rw [lg_entry_eq]
  generalize (lg_sl ([.ref h0, .int x1]) ++ List.replicate (8 - (lg_sl ([.ref h0, .int x1])).length) Slot.unset).toArray = ls at hl ⊢
  have hl : lv_has ls 8 [(0, .ref h0), (1, .int x1)] := hl
  have B_54 : ∀ (cs1 : RS) (y0 : Int64), m_eval_b54 F T cs1 y0 = some (cs9, r9) → ∀ (H : Heap) (locs : List Loc) (ls : Array Slot), va_P (dC, dI) vwCl (mW cB cI cJ cZ h0 a cs1) H → va_D A (mW cB cI cJ cZ h0 a cs1) → va_S A s.heap H locs → lv_has ls 8 [] → W p l e (headSpec (wsOf yX12_eval cX12_eval 8 (some .long)) ({ frames := n + 1 + 2, cells := 0, slots := 0, locals := 60 * (n + 1 + 2) } : Room)).room s m ([.ref h0, .int x1] : List Value).toArray below meth c H locs 0 0 (MQ below (va_Ql (fun (x : Int64) (_ : Unit) => x = r9) (fun _ t_ => va_P (dC, dI) vwCl (mW cB cI cJ cZ h0 a cs9) t_.heap ∧ va_D A (mW cB cI cJ cZ h0 a cs9)) A) ([.ref h0, .int x1] : List Value).toArray s 0 0 A) (F0 m 54 ls [.long y0, .ref h0]) := by
    intro cs1 y0 h H locs ls hP hD hS hl
    unfold m_eval_b54 at h
    obtain ⟨z_1, hv_1, h⟩ := ob h
    refine calL (As := [.long y0]) hx hb hml hts hown hK hP hD hS hA hZ (s_some l dC dI cB cI cJ cZ h0 a K V fz F cs1 y0 z_1.1 z_1.2 hv_1) (cw_some hts (fr := 0) (by show 0 + 1 ≤ n + 1 + 2; omega) (by show 8 + (3 + 11) + 60 * (0) ≤ 60 * (n + 1 + 2); omega)) rfl hl.1 (Nat.le_of_ble_eq_true rfl) ⟨Nat.zero_le _, Nat.zero_le _⟩ dX12_eval_54 (fun H locs hP hD hS => ?_)
    obtain ⟨e1, e2⟩ := Prod.mk.inj (Option.some.inj h)
    rw [e1] at hP hD
    exact W.lret (v := z_1.2) hx hb hr (fun t_ ht hW => ⟨⟨z_1.2, (), rfl, e2, by rw [ht]; exact hP, hD⟩, hS.F ht⟩) hS.2.2 dX12_eval_57
  have B_43 : ∀ (cs1 : RS) (u2 : Int32), m_eval_b43 F T cs1 u2 = some (cs9, r9) → ∀ (H : Heap) (locs : List Loc) (ls : Array Slot), va_P (dC, dI) vwCl (mW cB cI cJ cZ h0 a cs1) H → va_D A (mW cB cI cJ cZ h0 a cs1) → va_S A s.heap H locs → lv_has ls 8 [(0, .ref h0), (2, .int u2)] → W p l e (headSpec (wsOf yX12_eval cX12_eval 8 (some .long)) ({ frames := n + 1 + 2, cells := 0, slots := 0, locals := 60 * (n + 1 + 2) } : Room)).room s m ([.ref h0, .int x1] : List Value).toArray below meth c H locs 0 0 (MQ below (va_Ql (fun (x : Int64) (_ : Unit) => x = r9) (fun _ t_ => va_P (dC, dI) vwCl (mW cB cI cJ cZ h0 a cs9) t_.heap ∧ va_D A (mW cB cI cJ cZ h0 a cs9)) A) ([.ref h0, .int x1] : List Value).toArray s 0 0 A) (F0 m 43 ls []) := by
    intro cs1 u2 h H locs ls hP hD hS hl
    unfold m_eval_b43 at h
    refine lv_aload_n hx hb dX12_eval_43 rfl (lv_at hl 0 rfl) ?_
    refine lv_iload_n hx hb dX12_eval_44 rfl (lv_at hl 1 rfl) ?_
    refine lv_iconst (v := 3) hx hb dX12_eval_45 (by decide) ?_
    refine lv_icmp_ne (tgt := 53) hx hb dX12_eval_46 (by decide) (fun c_2 => ?_) (fun c_2 => ?_)
    · skip
      replace h := (if_neg c_2).symm.trans h
      refine lv_lconst (v := 0) hx hb dX12_eval_53 (by decide) ?_
      exact B_54 cs1 0 h _ _ _ hP hD hS (lv_sub hl [] rfl)
    · skip
      replace h := (if_pos c_2).symm.trans h
      refine lv_lconst (v := 1) hx hb dX12_eval_49 (by decide) ?_
      refine lv_goto (tgt := 54) hx hb dX12_eval_50 (by decide) ?_
      exact B_54 cs1 1 h _ _ _ hP hD hS (lv_sub hl [] rfl)
  have B_116 : ∀ (cs1 : RS) (y0 : Int64), m_eval_b116 F T cs1 y0 = some (cs9, r9) → ∀ (H : Heap) (locs : List Loc) (ls : Array Slot), va_P (dC, dI) vwCl (mW cB cI cJ cZ h0 a cs1) H → va_D A (mW cB cI cJ cZ h0 a cs1) → va_S A s.heap H locs → lv_has ls 8 [] → W p l e (headSpec (wsOf yX12_eval cX12_eval 8 (some .long)) ({ frames := n + 1 + 2, cells := 0, slots := 0, locals := 60 * (n + 1 + 2) } : Room)).room s m ([.ref h0, .int x1] : List Value).toArray below meth c H locs 0 0 (MQ below (va_Ql (fun (x : Int64) (_ : Unit) => x = r9) (fun _ t_ => va_P (dC, dI) vwCl (mW cB cI cJ cZ h0 a cs9) t_.heap ∧ va_D A (mW cB cI cJ cZ h0 a cs9)) A) ([.ref h0, .int x1] : List Value).toArray s 0 0 A) (F0 m 116 ls [.long y0]) := by
    intro cs1 y0 h H locs ls hP hD hS hl
    unfold m_eval_b116 at h
    obtain ⟨e1, e2⟩ := Prod.mk.inj (Option.some.inj h)
    rw [e1] at hP hD
    exact W.lret (v := y0) hx hb hr (fun t_ ht hW => ⟨⟨y0, (), rfl, e2, by rw [ht]; exact hP, hD⟩, hS.F ht⟩) hS.2.2 dX12_eval_116
  have B_81 : ∀ (cs1 : RS) (u1 : Int32) (y0 : Int32), m_eval_b81 F T cs1 u1 y0 = some (cs9, r9) → ∀ (H : Heap) (locs : List Loc) (ls : Array Slot), va_P (dC, dI) vwCl (mW cB cI cJ cZ h0 a cs1) H → va_D A (mW cB cI cJ cZ h0 a cs1) → va_S A s.heap H locs → lv_has ls 8 [(0, .ref h0), (1, .int u1)] → W p l e (headSpec (wsOf yX12_eval cX12_eval 8 (some .long)) ({ frames := n + 1 + 2, cells := 0, slots := 0, locals := 60 * (n + 1 + 2) } : Room)).room s m ([.ref h0, .int x1] : List Value).toArray below meth c H locs 0 0 (MQ below (va_Ql (fun (x : Int64) (_ : Unit) => x = r9) (fun _ t_ => va_P (dC, dI) vwCl (mW cB cI cJ cZ h0 a cs9) t_.heap ∧ va_D A (mW cB cI cJ cZ h0 a cs9)) A) ([.ref h0, .int x1] : List Value).toArray s 0 0 A) (F0 m 81 ls [.int y0]) := by
    intro cs1 u1 y0 h H locs ls hP hD hS hl
    unfold m_eval_b81 at h
    refine lv_aload_n hx hb dX12_eval_81 rfl (lv_at hl 0 rfl) ?_
    refine fg_33 hx hb hts hown hK hP dX12_eval_82 ?_
    refine lv_iload_n hx hb dX12_eval_85 rfl (lv_at hl 1 rfl) ?_
    obtain ⟨v_3, hv_3, h⟩ := ob h
    refine ag_33 hx hb hK hP hv_3 dX12_eval_86 ?_
    refine lv_iadd hx hb dX12_eval_87 ?_
    refine lv_istore_n (lv' := [(3, .int (y0 + v_3)), (0, .ref h0), (1, .int u1)]) hx hb dX12_eval_88 rfl hl (by decide) rfl (fun ls hl => ?_)
    refine lv_aload_n hx hb dX12_eval_89 rfl (lv_at hl 1 rfl) ?_
    refine lv_aload_n hx hb dX12_eval_90 rfl (lv_at hl 1 rfl) ?_
    refine fg_86 hx hb hts hown hK hP dX12_eval_91 ?_
    refine lv_iload_n hx hb dX12_eval_94 rfl (lv_at hl 0 rfl) ?_
    obtain ⟨v_4, hv_4, h⟩ := ob h
    refine ag_86 hx hb hK hP hv_4 dX12_eval_95 ?_
    obtain ⟨w_5, hw_5, h⟩ := ob h
    refine fp_92 hx hb hts hown hK hP hD hS (ckZ_some hw_5) dX12_eval_96 (fun H locs hP hD hS => ?_)
    refine lv_aload_n hx hb dX12_eval_99 rfl (lv_at hl 1 rfl) ?_
    refine fg_92 hx hb hts hown hK hP dX12_eval_100 ?_
    refine lv_if_eq (tgt := 110) hx hb dX12_eval_103 (by decide) (fun c_6 => ?_) (fun c_6 => ?_)
    · skip
      replace h := (if_pos c_6).symm.trans h
      refine lv_aload_n hx hb dX12_eval_110 rfl (lv_at hl 1 rfl) ?_
      refine fg_85 hx hb hts hown hK hP dX12_eval_111 ?_
      refine lv_iload_n hx hb dX12_eval_114 rfl (lv_at hl 0 rfl) ?_
      obtain ⟨v_7, hv_7, h⟩ := ob h
      refine ag_85 hx hb hK hP hv_7 dX12_eval_115 ?_
      exact B_116 (setF cs1 92 v_4) v_7 h _ _ _ hP hD hS (lv_sub hl [] rfl)
    · skip
      replace h := (if_neg c_6).symm.trans h
      refine lv_lconst (v := 0) hx hb dX12_eval_106 (by decide) ?_
      refine lv_goto (tgt := 116) hx hb dX12_eval_107 (by decide) ?_
      exact B_116 (setF cs1 92 v_4) 0 h _ _ _ hP hD hS (lv_sub hl [] rfl)
  have B_154 : ∀ (cs1 : RS) (u1 : Int32) (y0 : Int32), m_eval_b154 F T cs1 u1 y0 = some (cs9, r9) → ∀ (H : Heap) (locs : List Loc) (ls : Array Slot), va_P (dC, dI) vwCl (mW cB cI cJ cZ h0 a cs1) H → va_D A (mW cB cI cJ cZ h0 a cs1) → va_S A s.heap H locs → lv_has ls 8 [(0, .ref h0), (1, .int u1)] → W p l e (headSpec (wsOf yX12_eval cX12_eval 8 (some .long)) ({ frames := n + 1 + 2, cells := 0, slots := 0, locals := 60 * (n + 1 + 2) } : Room)).room s m ([.ref h0, .int x1] : List Value).toArray below meth c H locs 0 0 (MQ below (va_Ql (fun (x : Int64) (_ : Unit) => x = r9) (fun _ t_ => va_P (dC, dI) vwCl (mW cB cI cJ cZ h0 a cs9) t_.heap ∧ va_D A (mW cB cI cJ cZ h0 a cs9)) A) ([.ref h0, .int x1] : List Value).toArray s 0 0 A) (F0 m 154 ls [.int y0, .ref h0]) := by
    intro cs1 u1 y0 h H locs ls hP hD hS hl
    unfold m_eval_b154 at h
    refine lv_aload_n hx hb dX12_eval_154 rfl (lv_at hl 0 rfl) ?_
    refine lv_aload_n hx hb dX12_eval_155 rfl (lv_at hl 0 rfl) ?_
    refine fg_24 hx hb hts hown hK hP dX12_eval_156 ?_
    refine lv_iload_n hx hb dX12_eval_159 rfl (lv_at hl 1 rfl) ?_
    obtain ⟨v_8, hv_8, h⟩ := ob h
    refine ag_24 hx hb hK hP hv_8 dX12_eval_160 ?_
    obtain ⟨z_9, hv_9, h⟩ := ob h
    refine calI (As := [.int v_8]) hx hb hml hts hown hK hP hD hS hA hZ (hT_truth cs1 v_8 z_9.1 z_9.2 hv_9) (cw_truth hts (fr := n + 2) (by show n + 2 + 1 ≤ n + 1 + 2; omega) (by show 8 + (4 + 11) + 60 * (n + 2) ≤ 60 * (n + 1 + 2); omega)) rfl hl.1 (Nat.le_of_ble_eq_true rfl) ⟨Nat.zero_le _, Nat.zero_le _⟩ dX12_eval_161 (fun H locs hP hD hS => ?_)
    refine lv_aload_n hx hb dX12_eval_164 rfl (lv_at hl 0 rfl) ?_
    refine lv_aload_n hx hb dX12_eval_165 rfl (lv_at hl 0 rfl) ?_
    refine fg_25 hx hb hts hown hK hP dX12_eval_166 ?_
    refine lv_iload_n hx hb dX12_eval_169 rfl (lv_at hl 1 rfl) ?_
    obtain ⟨v_10, hv_10, h⟩ := ob h
    refine ag_25 hx hb hK hP hv_10 dX12_eval_170 ?_
    obtain ⟨z_11, hv_11, h⟩ := ob h
    refine calI (As := [.int v_10]) hx hb hml hts hown hK hP hD hS hA hZ (hT_truth z_9.1 v_10 z_11.1 z_11.2 hv_11) (cw_truth hts (fr := n + 2) (by show n + 2 + 1 ≤ n + 1 + 2; omega) (by show 8 + (4 + 11) + 60 * (n + 2) ≤ 60 * (n + 1 + 2); omega)) rfl hl.1 (Nat.le_of_ble_eq_true rfl) ⟨Nat.zero_le _, Nat.zero_le _⟩ dX12_eval_171 (fun H locs hP hD hS => ?_)
    obtain ⟨v_12, hv_12, h⟩ := ob h
    refine calSI (As := [.int y0, .int z_9.2, .int z_11.2]) hx hb hml hts hown hK hP hD hS hA hZ (s_both l dC dI cB cI cJ cZ h0 a K V fz F z_11.1 y0 z_9.2 z_11.2 v_12 hv_12) (cw_both hts (fr := 0) (by show 0 + 1 ≤ n + 1 + 2; omega) (by show 8 + (4 + 11) + 60 * (0) ≤ 60 * (n + 1 + 2); omega)) rfl hl.1 (Nat.le_of_ble_eq_true rfl) ⟨Nat.zero_le _, Nat.zero_le _⟩ dX12_eval_174 (fun H locs hP hD hS => ?_)
    obtain ⟨z_13, hv_13, h⟩ := ob h
    refine calL (As := [.int v_12]) hx hb hml hts hown hK hP hD hS hA hZ (s_ofTruth l dC dI cB cI cJ cZ h0 a K V fz F z_11.1 v_12 z_13.1 z_13.2 hv_13) (cw_ofTruth hts (fr := 1) (by show 1 + 1 ≤ n + 1 + 2; omega) (by show 8 + (2 + 11) + 60 * (1) ≤ 60 * (n + 1 + 2); omega)) rfl hl.1 (Nat.le_of_ble_eq_true rfl) ⟨Nat.zero_le _, Nat.zero_le _⟩ dX12_eval_177 (fun H locs hP hD hS => ?_)
    obtain ⟨e1, e2⟩ := Prod.mk.inj (Option.some.inj h)
    rw [e1] at hP hD
    exact W.lret (v := z_13.2) hx hb hr (fun t_ ht hW => ⟨⟨z_13.2, (), rfl, e2, by rw [ht]; exact hP, hD⟩, hS.F ht⟩) hS.2.2 dX12_eval_180
  have B_142 : ∀ (cs1 : RS) (u1 : Int32) (u2 : Int32), m_eval_b142 F T cs1 u1 u2 = some (cs9, r9) → ∀ (H : Heap) (locs : List Loc) (ls : Array Slot), va_P (dC, dI) vwCl (mW cB cI cJ cZ h0 a cs1) H → va_D A (mW cB cI cJ cZ h0 a cs1) → va_S A s.heap H locs → lv_has ls 8 [(0, .ref h0), (1, .int u1), (2, .int u2)] → W p l e (headSpec (wsOf yX12_eval cX12_eval 8 (some .long)) ({ frames := n + 1 + 2, cells := 0, slots := 0, locals := 60 * (n + 1 + 2) } : Room)).room s m ([.ref h0, .int x1] : List Value).toArray below meth c H locs 0 0 (MQ below (va_Ql (fun (x : Int64) (_ : Unit) => x = r9) (fun _ t_ => va_P (dC, dI) vwCl (mW cB cI cJ cZ h0 a cs9) t_.heap ∧ va_D A (mW cB cI cJ cZ h0 a cs9)) A) ([.ref h0, .int x1] : List Value).toArray s 0 0 A) (F0 m 142 ls []) := by
    intro cs1 u1 u2 h H locs ls hP hD hS hl
    unfold m_eval_b142 at h
    refine lv_aload_n hx hb dX12_eval_142 rfl (lv_at hl 0 rfl) ?_
    refine lv_iload_n hx hb dX12_eval_143 rfl (lv_at hl 2 rfl) ?_
    refine lv_bipush (v := 6) hx hb dX12_eval_144 (by decide) ?_
    refine lv_icmp_ne (tgt := 153) hx hb dX12_eval_146 (by decide) (fun c_14 => ?_) (fun c_14 => ?_)
    · skip
      replace h := (if_neg c_14).symm.trans h
      refine lv_iconst (v := 0) hx hb dX12_eval_153 (by decide) ?_
      exact B_154 cs1 u1 0 h _ _ _ hP hD hS (lv_sub hl [0, 1] rfl)
    · skip
      replace h := (if_pos c_14).symm.trans h
      refine lv_iconst (v := 1) hx hb dX12_eval_149 (by decide) ?_
      refine lv_goto (tgt := 154) hx hb dX12_eval_150 (by decide) ?_
      exact B_154 cs1 u1 1 h _ _ _ hP hD hS (lv_sub hl [0, 1] rfl)
  have B_211 : ∀ (cs1 : RS) (y0 : Int32), m_eval_b211 F T cs1 y0 = some (cs9, r9) → ∀ (H : Heap) (locs : List Loc) (ls : Array Slot), va_P (dC, dI) vwCl (mW cB cI cJ cZ h0 a cs1) H → va_D A (mW cB cI cJ cZ h0 a cs1) → va_S A s.heap H locs → lv_has ls 8 [] → W p l e (headSpec (wsOf yX12_eval cX12_eval 8 (some .long)) ({ frames := n + 1 + 2, cells := 0, slots := 0, locals := 60 * (n + 1 + 2) } : Room)).room s m ([.ref h0, .int x1] : List Value).toArray below meth c H locs 0 0 (MQ below (va_Ql (fun (x : Int64) (_ : Unit) => x = r9) (fun _ t_ => va_P (dC, dI) vwCl (mW cB cI cJ cZ h0 a cs9) t_.heap ∧ va_D A (mW cB cI cJ cZ h0 a cs9)) A) ([.ref h0, .int x1] : List Value).toArray s 0 0 A) (F0 m 211 ls [.int y0, .ref h0]) := by
    intro cs1 y0 h H locs ls hP hD hS hl
    unfold m_eval_b211 at h
    obtain ⟨z_15, hv_15, h⟩ := ob h
    refine calL (As := [.int y0]) hx hb hml hts hown hK hP hD hS hA hZ (s_ofTruth l dC dI cB cI cJ cZ h0 a K V fz F cs1 y0 z_15.1 z_15.2 hv_15) (cw_ofTruth hts (fr := 1) (by show 1 + 1 ≤ n + 1 + 2; omega) (by show 8 + (2 + 11) + 60 * (1) ≤ 60 * (n + 1 + 2); omega)) rfl hl.1 (Nat.le_of_ble_eq_true rfl) ⟨Nat.zero_le _, Nat.zero_le _⟩ dX12_eval_211 (fun H locs hP hD hS => ?_)
    obtain ⟨e1, e2⟩ := Prod.mk.inj (Option.some.inj h)
    rw [e1] at hP hD
    exact W.lret (v := z_15.2) hx hb hr (fun t_ ht hW => ⟨⟨z_15.2, (), rfl, e2, by rw [ht]; exact hP, hD⟩, hS.F ht⟩) hS.2.2 dX12_eval_214
  have B_263 : ∀ (cs1 : RS) (y0 : Int64), m_eval_b263 F T cs1 y0 = some (cs9, r9) → ∀ (H : Heap) (locs : List Loc) (ls : Array Slot), va_P (dC, dI) vwCl (mW cB cI cJ cZ h0 a cs1) H → va_D A (mW cB cI cJ cZ h0 a cs1) → va_S A s.heap H locs → lv_has ls 8 [] → W p l e (headSpec (wsOf yX12_eval cX12_eval 8 (some .long)) ({ frames := n + 1 + 2, cells := 0, slots := 0, locals := 60 * (n + 1 + 2) } : Room)).room s m ([.ref h0, .int x1] : List Value).toArray below meth c H locs 0 0 (MQ below (va_Ql (fun (x : Int64) (_ : Unit) => x = r9) (fun _ t_ => va_P (dC, dI) vwCl (mW cB cI cJ cZ h0 a cs9) t_.heap ∧ va_D A (mW cB cI cJ cZ h0 a cs9)) A) ([.ref h0, .int x1] : List Value).toArray s 0 0 A) (F0 m 263 ls [.long y0, .ref h0]) := by
    intro cs1 y0 h H locs ls hP hD hS hl
    unfold m_eval_b263 at h
    obtain ⟨z_16, hv_16, h⟩ := ob h
    refine calL (As := [.long y0]) hx hb hml hts hown hK hP hD hS hA hZ (s_some l dC dI cB cI cJ cZ h0 a K V fz F cs1 y0 z_16.1 z_16.2 hv_16) (cw_some hts (fr := 0) (by show 0 + 1 ≤ n + 1 + 2; omega) (by show 8 + (3 + 11) + 60 * (0) ≤ 60 * (n + 1 + 2); omega)) rfl hl.1 (Nat.le_of_ble_eq_true rfl) ⟨Nat.zero_le _, Nat.zero_le _⟩ dX12_eval_263 (fun H locs hP hD hS => ?_)
    obtain ⟨e1, e2⟩ := Prod.mk.inj (Option.some.inj h)
    rw [e1] at hP hD
    exact W.lret (v := z_16.2) hx hb hr (fun t_ ht hW => ⟨⟨z_16.2, (), rfl, e2, by rw [ht]; exact hP, hD⟩, hS.F ht⟩) hS.2.2 dX12_eval_266
  have B_255 : ∀ (cs1 : RS) (y0 : Int32) (y1 : Int32), m_eval_b255 F T cs1 y0 y1 = some (cs9, r9) → ∀ (H : Heap) (locs : List Loc) (ls : Array Slot), va_P (dC, dI) vwCl (mW cB cI cJ cZ h0 a cs1) H → va_D A (mW cB cI cJ cZ h0 a cs1) → va_S A s.heap H locs → lv_has ls 8 [] → W p l e (headSpec (wsOf yX12_eval cX12_eval 8 (some .long)) ({ frames := n + 1 + 2, cells := 0, slots := 0, locals := 60 * (n + 1 + 2) } : Room)).room s m ([.ref h0, .int x1] : List Value).toArray below meth c H locs 0 0 (MQ below (va_Ql (fun (x : Int64) (_ : Unit) => x = r9) (fun _ t_ => va_P (dC, dI) vwCl (mW cB cI cJ cZ h0 a cs9) t_.heap ∧ va_D A (mW cB cI cJ cZ h0 a cs9)) A) ([.ref h0, .int x1] : List Value).toArray s 0 0 A) (F0 m 255 ls [.int y0, .int y1, .ref h0]) := by
    intro cs1 y0 y1 h H locs ls hP hD hS hl
    unfold m_eval_b255 at h
    refine lv_icmp_ne (tgt := 262) hx hb dX12_eval_255 (by decide) (fun c_17 => ?_) (fun c_17 => ?_)
    · skip
      replace h := (if_neg c_17).symm.trans h
      refine lv_lconst (v := 0) hx hb dX12_eval_262 (by decide) ?_
      exact B_263 cs1 0 h _ _ _ hP hD hS (lv_sub hl [] rfl)
    · skip
      replace h := (if_pos c_17).symm.trans h
      refine lv_lconst (v := 1) hx hb dX12_eval_258 (by decide) ?_
      refine lv_goto (tgt := 263) hx hb dX12_eval_259 (by decide) ?_
      exact B_263 cs1 1 h _ _ _ hP hD hS (lv_sub hl [] rfl)
  have B_310 : ∀ (cs1 : RS) (y0 : Int64), m_eval_b310 F T cs1 y0 = some (cs9, r9) → ∀ (H : Heap) (locs : List Loc) (ls : Array Slot), va_P (dC, dI) vwCl (mW cB cI cJ cZ h0 a cs1) H → va_D A (mW cB cI cJ cZ h0 a cs1) → va_S A s.heap H locs → lv_has ls 8 [] → W p l e (headSpec (wsOf yX12_eval cX12_eval 8 (some .long)) ({ frames := n + 1 + 2, cells := 0, slots := 0, locals := 60 * (n + 1 + 2) } : Room)).room s m ([.ref h0, .int x1] : List Value).toArray below meth c H locs 0 0 (MQ below (va_Ql (fun (x : Int64) (_ : Unit) => x = r9) (fun _ t_ => va_P (dC, dI) vwCl (mW cB cI cJ cZ h0 a cs9) t_.heap ∧ va_D A (mW cB cI cJ cZ h0 a cs9)) A) ([.ref h0, .int x1] : List Value).toArray s 0 0 A) (F0 m 310 ls [.long y0]) := by
    intro cs1 y0 h H locs ls hP hD hS hl
    unfold m_eval_b310 at h
    obtain ⟨e1, e2⟩ := Prod.mk.inj (Option.some.inj h)
    rw [e1] at hP hD
    exact W.lret (v := y0) hx hb hr (fun t_ ht hW => ⟨⟨y0, (), rfl, e2, by rw [ht]; exact hP, hD⟩, hS.F ht⟩) hS.2.2 dX12_eval_310
  have B_364 : ∀ (cs1 : RS) (y0 : Int64), m_eval_b364 F T cs1 y0 = some (cs9, r9) → ∀ (H : Heap) (locs : List Loc) (ls : Array Slot), va_P (dC, dI) vwCl (mW cB cI cJ cZ h0 a cs1) H → va_D A (mW cB cI cJ cZ h0 a cs1) → va_S A s.heap H locs → lv_has ls 8 [] → W p l e (headSpec (wsOf yX12_eval cX12_eval 8 (some .long)) ({ frames := n + 1 + 2, cells := 0, slots := 0, locals := 60 * (n + 1 + 2) } : Room)).room s m ([.ref h0, .int x1] : List Value).toArray below meth c H locs 0 0 (MQ below (va_Ql (fun (x : Int64) (_ : Unit) => x = r9) (fun _ t_ => va_P (dC, dI) vwCl (mW cB cI cJ cZ h0 a cs9) t_.heap ∧ va_D A (mW cB cI cJ cZ h0 a cs9)) A) ([.ref h0, .int x1] : List Value).toArray s 0 0 A) (F0 m 364 ls [.long y0]) := by
    intro cs1 y0 h H locs ls hP hD hS hl
    unfold m_eval_b364 at h
    obtain ⟨e1, e2⟩ := Prod.mk.inj (Option.some.inj h)
    rw [e1] at hP hD
    exact W.lret (v := y0) hx hb hr (fun t_ ht hW => ⟨⟨y0, (), rfl, e2, by rw [ht]; exact hP, hD⟩, hS.F ht⟩) hS.2.2 dX12_eval_364
  have B_389 : ∀ (cs1 : RS) , m_eval_b389 F T cs1 = some (cs9, r9) → ∀ (H : Heap) (locs : List Loc) (ls : Array Slot), va_P (dC, dI) vwCl (mW cB cI cJ cZ h0 a cs1) H → va_D A (mW cB cI cJ cZ h0 a cs1) → va_S A s.heap H locs → lv_has ls 8 [(0, .ref h0)] → W p l e (headSpec (wsOf yX12_eval cX12_eval 8 (some .long)) ({ frames := n + 1 + 2, cells := 0, slots := 0, locals := 60 * (n + 1 + 2) } : Room)).room s m ([.ref h0, .int x1] : List Value).toArray below meth c H locs 0 0 (MQ below (va_Ql (fun (x : Int64) (_ : Unit) => x = r9) (fun _ t_ => va_P (dC, dI) vwCl (mW cB cI cJ cZ h0 a cs9) t_.heap ∧ va_D A (mW cB cI cJ cZ h0 a cs9)) A) ([.ref h0, .int x1] : List Value).toArray s 0 0 A) (F0 m 389 ls []) := by
    intro cs1  h H locs ls hP hD hS hl
    unfold m_eval_b389 at h
    refine lv_aload_n hx hb dX12_eval_389 rfl (lv_at hl 0 rfl) ?_
    obtain ⟨z_18, hv_18, h⟩ := ob h
    refine calL (As := []) hx hb hml hts hown hK hP hD hS hA hZ (s_nothing0 l dC dI cB cI cJ cZ h0 a K V fz F cs1  z_18.1 z_18.2 hv_18) (cw_nothing0 hts (fr := 0) (by show 0 + 1 ≤ n + 1 + 2; omega) (by show 8 + (1 + 11) + 60 * (0) ≤ 60 * (n + 1 + 2); omega)) rfl hl.1 (Nat.le_of_ble_eq_true rfl) ⟨Nat.zero_le _, Nat.zero_le _⟩ dX12_eval_390 (fun H locs hP hD hS => ?_)
    obtain ⟨e1, e2⟩ := Prod.mk.inj (Option.some.inj h)
    rw [e1] at hP hD
    exact W.lret (v := z_18.2) hx hb hr (fun t_ ht hW => ⟨⟨z_18.2, (), rfl, e2, by rw [ht]; exact hP, hD⟩, hS.F ht⟩) hS.2.2 dX12_eval_393
  have h := hf
  unfold b_eval at h
  refine lv_aload_n hx hb dX12_eval_0 rfl (lv_at hl 0 rfl) ?_
  refine fg_23 hx hb hts hown hK hP dX12_eval_1 ?_
  refine lv_iload_n hx hb dX12_eval_4 rfl (lv_at hl 1 rfl) ?_
  obtain ⟨v_19, hv_19, h⟩ := ob h
  refine ag_23 hx hb hK hP hv_19 dX12_eval_5 ?_
  refine lv_istore_n (lv' := [(2, .int v_19), (0, .ref h0), (1, .int x1)]) hx hb dX12_eval_6 rfl hl (by decide) rfl (fun ls hl => ?_)
  refine lv_iload_n hx hb dX12_eval_7 rfl (lv_at hl 0 rfl) ?_
  refine lv_iconst (v := 1) hx hb dX12_eval_8 (by decide) ?_
  refine lv_icmp_ne (tgt := 23) hx hb dX12_eval_9 (by decide) (fun c_20 => ?_) (fun c_20 => ?_)
  · skip
    replace h := (if_neg c_20).symm.trans h
    refine lv_iload_n hx hb dX12_eval_23 rfl (lv_at hl 0 rfl) ?_
    refine lv_iconst (v := 2) hx hb dX12_eval_24 (by decide) ?_
    refine lv_icmp_ne (tgt := 33) hx hb dX12_eval_25 (by decide) (fun c_21 => ?_) (fun c_21 => ?_)
    · skip
      replace h := (if_neg c_21).symm.trans h
      refine lv_iload_n hx hb dX12_eval_33 rfl (lv_at hl 0 rfl) ?_
      refine lv_iconst (v := 3) hx hb dX12_eval_34 (by decide) ?_
      refine lv_icmp_eq (tgt := 43) hx hb dX12_eval_35 (by decide) (fun c_22 => ?_) (fun c_22 => ?_)
      · skip
        replace h := (if_pos c_22).symm.trans h
        exact B_43 cs v_19 h _ _ _ hP hD hS (lv_sub hl [1, 0] rfl)
      · skip
        replace h := (if_neg c_22).symm.trans h
        refine lv_iload_n hx hb dX12_eval_38 rfl (lv_at hl 0 rfl) ?_
        refine lv_iconst (v := 4) hx hb dX12_eval_39 (by decide) ?_
        refine lv_icmp_ne (tgt := 58) hx hb dX12_eval_40 (by decide) (fun c_23 => ?_) (fun c_23 => ?_)
        · skip
          replace h := (if_neg c_23).symm.trans h
          refine lv_iload_n hx hb dX12_eval_58 rfl (lv_at hl 0 rfl) ?_
          refine lv_iconst (v := 5) hx hb dX12_eval_59 (by decide) ?_
          refine lv_icmp_ne (tgt := 117) hx hb dX12_eval_60 (by decide) (fun c_24 => ?_) (fun c_24 => ?_)
          · skip
            replace h := (if_neg c_24).symm.trans h
            refine lv_iload_n hx hb dX12_eval_117 rfl (lv_at hl 0 rfl) ?_
            refine lv_bipush (v := 20) hx hb dX12_eval_118 (by decide) ?_
            refine lv_icmp_lt (tgt := 130) hx hb dX12_eval_120 (by decide) (fun c_25 => ?_) (fun c_25 => ?_)
            · skip
              replace h := (if_pos c_25).symm.trans h
              refine lv_iload_n hx hb dX12_eval_130 rfl (lv_at hl 0 rfl) ?_
              refine lv_bipush (v := 6) hx hb dX12_eval_131 (by decide) ?_
              refine lv_icmp_eq (tgt := 142) hx hb dX12_eval_133 (by decide) (fun c_26 => ?_) (fun c_26 => ?_)
              · skip
                replace h := (if_pos c_26).symm.trans h
                exact B_142 cs x1 v_19 h _ _ _ hP hD hS (lv_sub hl [1, 2, 0] rfl)
              · skip
                replace h := (if_neg c_26).symm.trans h
                refine lv_iload_n hx hb dX12_eval_136 rfl (lv_at hl 0 rfl) ?_
                refine lv_bipush (v := 7) hx hb dX12_eval_137 (by decide) ?_
                refine lv_icmp_ne (tgt := 181) hx hb dX12_eval_139 (by decide) (fun c_27 => ?_) (fun c_27 => ?_)
                · skip
                  replace h := (if_neg c_27).symm.trans h
                  refine lv_iload_n hx hb dX12_eval_181 rfl (lv_at hl 0 rfl) ?_
                  refine lv_bipush (v := 8) hx hb dX12_eval_182 (by decide) ?_
                  refine lv_icmp_ne (tgt := 215) hx hb dX12_eval_184 (by decide) (fun c_28 => ?_) (fun c_28 => ?_)
                  · skip
                    replace h := (if_neg c_28).symm.trans h
                    refine lv_iload_n hx hb dX12_eval_215 rfl (lv_at hl 0 rfl) ?_
                    refine lv_bipush (v := 10) hx hb dX12_eval_216 (by decide) ?_
                    refine lv_icmp_ne (tgt := 267) hx hb dX12_eval_218 (by decide) (fun c_29 => ?_) (fun c_29 => ?_)
                    · skip
                      replace h := (if_neg c_29).symm.trans h
                      refine lv_iload_n hx hb dX12_eval_267 rfl (lv_at hl 0 rfl) ?_
                      refine lv_bipush (v := 18) hx hb dX12_eval_268 (by decide) ?_
                      refine lv_icmp_ne (tgt := 311) hx hb dX12_eval_270 (by decide) (fun c_30 => ?_) (fun c_30 => ?_)
                      · skip
                        replace h := (if_neg c_30).symm.trans h
                        refine lv_iload_n hx hb dX12_eval_311 rfl (lv_at hl 0 rfl) ?_
                        refine lv_bipush (v := 11) hx hb dX12_eval_312 (by decide) ?_
                        refine lv_icmp_ne (tgt := 323) hx hb dX12_eval_314 (by decide) (fun c_31 => ?_) (fun c_31 => ?_)
                        · skip
                          replace h := (if_neg c_31).symm.trans h
                          refine lv_aload_n hx hb dX12_eval_323 rfl (lv_at hl 1 rfl) ?_
                          refine lv_aload_n hx hb dX12_eval_324 rfl (lv_at hl 1 rfl) ?_
                          refine fg_24 hx hb hts hown hK hP dX12_eval_325 ?_
                          refine lv_iload_n hx hb dX12_eval_328 rfl (lv_at hl 2 rfl) ?_
                          obtain ⟨v_32, hv_32, h⟩ := ob h
                          refine ag_24 hx hb hK hP hv_32 dX12_eval_329 ?_
                          obtain ⟨z_33, hv_33, h⟩ := ob h
                          refine calL (As := [.int v_32]) hx hb hml hts hown hK hP hD hS hA hZ (hT_eval cs v_32 z_33.1 z_33.2 hv_33) (cw_eval hts (fr := n + 2) (by show n + 2 + 1 ≤ n + 1 + 2; omega) (by show 8 + (8 + 11) + 60 * (n + 2) ≤ 60 * (n + 1 + 2); omega)) rfl hl.1 (Nat.le_of_ble_eq_true rfl) ⟨Nat.zero_le _, Nat.zero_le _⟩ dX12_eval_330 (fun H locs hP hD hS => ?_)
                          refine lv_lstore_n (lv' := [(3, .long z_33.2), (2, .int v_19), (0, .ref h0), (1, .int x1)]) hx hb dX12_eval_333 rfl hl (by decide) rfl (fun ls hl => ?_)
                          refine lv_aload_n hx hb dX12_eval_334 rfl (lv_at hl 2 rfl) ?_
                          refine fg_92 hx hb hts hown hK hP dX12_eval_335 ?_
                          refine lv_istore (lv' := [(5, .int (z_33.1.1 92)), (3, .long z_33.2), (2, .int v_19), (0, .ref h0), (1, .int x1)]) hx hb dX12_eval_338 hl (by decide) rfl (fun ls hl => ?_)
                          refine lv_iload_n hx hb dX12_eval_340 rfl (lv_at hl 2 rfl) ?_
                          refine lv_bipush (v := 17) hx hb dX12_eval_341 (by decide) ?_
                          refine lv_icmp_ne (tgt := 365) hx hb dX12_eval_343 (by decide) (fun c_34 => ?_) (fun c_34 => ?_)
                          · skip
                            replace h := (if_neg c_34).symm.trans h
                            refine lv_aload_n hx hb dX12_eval_365 rfl (lv_at hl 3 rfl) ?_
                            refine lv_aload_n hx hb dX12_eval_366 rfl (lv_at hl 3 rfl) ?_
                            refine fg_25 hx hb hts hown hK hP dX12_eval_367 ?_
                            refine lv_iload_n hx hb dX12_eval_370 rfl (lv_at hl 4 rfl) ?_
                            obtain ⟨v_35, hv_35, h⟩ := ob h
                            refine ag_25 hx hb hK hP hv_35 dX12_eval_371 ?_
                            obtain ⟨z_36, hv_36, h⟩ := ob h
                            refine calL (As := [.int v_35]) hx hb hml hts hown hK hP hD hS hA hZ (hT_eval z_33.1 v_35 z_36.1 z_36.2 hv_36) (cw_eval hts (fr := n + 2) (by show n + 2 + 1 ≤ n + 1 + 2; omega) (by show 8 + (8 + 11) + 60 * (n + 2) ≤ 60 * (n + 1 + 2); omega)) rfl hl.1 (Nat.le_of_ble_eq_true rfl) ⟨Nat.zero_le _, Nat.zero_le _⟩ dX12_eval_372 (fun H locs hP hD hS => ?_)
                            refine lv_lstore (lv' := [(6, .long z_36.2), (5, .int (z_33.1.1 92)), (3, .long z_33.2), (2, .int v_19), (0, .ref h0), (1, .int x1)]) hx hb dX12_eval_375 hl (by decide) rfl (fun ls hl => ?_)
                            refine lv_iload hx hb dX12_eval_377 (lv_at hl 1 rfl) ?_
                            refine lv_if_ne (tgt := 389) hx hb dX12_eval_379 (by decide) (fun c_37 => ?_) (fun c_37 => ?_)
                            · skip
                              replace h := (if_neg c_37).symm.trans h
                              exact B_389 z_36.1 h _ _ _ hP hD hS (lv_sub hl [4] rfl)
                            · skip
                              replace h := (if_pos c_37).symm.trans h
                              refine lv_aload_n hx hb dX12_eval_382 rfl (lv_at hl 4 rfl) ?_
                              refine fg_92 hx hb hts hown hK hP dX12_eval_383 ?_
                              refine lv_if_eq (tgt := 394) hx hb dX12_eval_386 (by decide) (fun c_38 => ?_) (fun c_38 => ?_)
                              · skip
                                replace h := (if_pos c_38).symm.trans h
                                refine lv_aload_n hx hb dX12_eval_394 rfl (lv_at hl 4 rfl) ?_
                                refine lv_iload_n hx hb dX12_eval_395 rfl (lv_at hl 5 rfl) ?_
                                refine lv_iload_n hx hb dX12_eval_396 rfl (lv_at hl 3 rfl) ?_
                                refine lv_lload_n hx hb dX12_eval_397 rfl (lv_at hl 2 rfl) ?_
                                refine lv_lload hx hb dX12_eval_398 (lv_at hl 0 rfl) ?_
                                obtain ⟨z_39, hv_39, h⟩ := ob h
                                refine calL (As := [.int x1, .int v_19, .long z_33.2, .long z_36.2]) hx hb hml hts hown hK hP hD hS hA hZ (s_some2 l dC dI cB cI cJ cZ h0 a K V fz F z_36.1 x1 v_19 z_33.2 z_36.2 z_39.1 z_39.2 hv_39) (cw_some2 hts (fr := 1) (by show 1 + 1 ≤ n + 1 + 2; omega) (by show 8 + (9 + 11) + 60 * (1) ≤ 60 * (n + 1 + 2); omega)) rfl hl.1 (Nat.le_of_ble_eq_true rfl) ⟨Nat.zero_le _, Nat.zero_le _⟩ dX12_eval_400 (fun H locs hP hD hS => ?_)
                                obtain ⟨e1, e2⟩ := Prod.mk.inj (Option.some.inj h)
                                rw [e1] at hP hD
                                exact W.lret (v := z_39.2) hx hb hr (fun t_ ht hW => ⟨⟨z_39.2, (), rfl, e2, by rw [ht]; exact hP, hD⟩, hS.F ht⟩) hS.2.2 dX12_eval_403
                              · skip
                                replace h := (if_neg c_38).symm.trans h
                                exact B_389 z_36.1 h _ _ _ hP hD hS (lv_sub hl [4] rfl)
                          · skip
                            replace h := (if_pos c_34).symm.trans h
                            refine lv_iload hx hb dX12_eval_346 (lv_at hl 0 rfl) ?_
                            refine lv_if_eq (tgt := 358) hx hb dX12_eval_348 (by decide) (fun c_40 => ?_) (fun c_40 => ?_)
                            · skip
                              replace h := (if_pos c_40).symm.trans h
                              refine lv_aload_n hx hb dX12_eval_358 rfl (lv_at hl 3 rfl) ?_
                              refine lv_lload_n hx hb dX12_eval_359 rfl (lv_at hl 1 rfl) ?_
                              refine lv_lneg hx hb dX12_eval_360 ?_
                              obtain ⟨z_41, hv_41, h⟩ := ob h
                              refine calL (As := [.long (-z_33.2)]) hx hb hml hts hown hK hP hD hS hA hZ (s_some l dC dI cB cI cJ cZ h0 a K V fz F z_33.1 (-z_33.2) z_41.1 z_41.2 hv_41) (cw_some hts (fr := 0) (by show 0 + 1 ≤ n + 1 + 2; omega) (by show 8 + (3 + 11) + 60 * (0) ≤ 60 * (n + 1 + 2); omega)) rfl hl.1 (Nat.le_of_ble_eq_true rfl) ⟨Nat.zero_le _, Nat.zero_le _⟩ dX12_eval_361 (fun H locs hP hD hS => ?_)
                              exact B_364 z_41.1 z_41.2 h _ _ _ hP hD hS (lv_sub hl [] rfl)
                            · skip
                              replace h := (if_neg c_40).symm.trans h
                              refine lv_aload_n hx hb dX12_eval_351 rfl (lv_at hl 3 rfl) ?_
                              obtain ⟨z_42, hv_42, h⟩ := ob h
                              refine calL (As := []) hx hb hml hts hown hK hP hD hS hA hZ (s_nothing0 l dC dI cB cI cJ cZ h0 a K V fz F z_33.1  z_42.1 z_42.2 hv_42) (cw_nothing0 hts (fr := 0) (by show 0 + 1 ≤ n + 1 + 2; omega) (by show 8 + (1 + 11) + 60 * (0) ≤ 60 * (n + 1 + 2); omega)) rfl hl.1 (Nat.le_of_ble_eq_true rfl) ⟨Nat.zero_le _, Nat.zero_le _⟩ dX12_eval_352 (fun H locs hP hD hS => ?_)
                              refine lv_goto (tgt := 364) hx hb dX12_eval_355 (by decide) ?_
                              exact B_364 z_42.1 z_42.2 h _ _ _ hP hD hS (lv_sub hl [] rfl)
                        · skip
                          replace h := (if_pos c_31).symm.trans h
                          refine lv_aload_n hx hb dX12_eval_317 rfl (lv_at hl 1 rfl) ?_
                          refine lv_iload_n hx hb dX12_eval_318 rfl (lv_at hl 2 rfl) ?_
                          obtain ⟨z_43, hv_43, h⟩ := ob h
                          refine calL (As := [.int x1]) hx hb hml hts hown hK hP hD hS hA hZ (hT_isOneOf cs x1 z_43.1 z_43.2 hv_43) (cw_isOneOf hts (fr := n + 2) (by show n + 2 + 1 ≤ n + 1 + 2; omega) (by show 8 + (9 + 11) + 60 * (n + 2) ≤ 60 * (n + 1 + 2); omega)) rfl hl.1 (Nat.le_of_ble_eq_true rfl) ⟨Nat.zero_le _, Nat.zero_le _⟩ dX12_eval_319 (fun H locs hP hD hS => ?_)
                          obtain ⟨e1, e2⟩ := Prod.mk.inj (Option.some.inj h)
                          rw [e1] at hP hD
                          exact W.lret (v := z_43.2) hx hb hr (fun t_ ht hW => ⟨⟨z_43.2, (), rfl, e2, by rw [ht]; exact hP, hD⟩, hS.F ht⟩) hS.2.2 dX12_eval_322
                      · skip
                        replace h := (if_pos c_30).symm.trans h
                        refine lv_aload_n hx hb dX12_eval_273 rfl (lv_at hl 1 rfl) ?_
                        refine lv_aload_n hx hb dX12_eval_274 rfl (lv_at hl 1 rfl) ?_
                        refine fg_24 hx hb hts hown hK hP dX12_eval_275 ?_
                        refine lv_iload_n hx hb dX12_eval_278 rfl (lv_at hl 2 rfl) ?_
                        obtain ⟨v_44, hv_44, h⟩ := ob h
                        refine ag_24 hx hb hK hP hv_44 dX12_eval_279 ?_
                        obtain ⟨z_45, hv_45, h⟩ := ob h
                        refine calI (As := [.int v_44]) hx hb hml hts hown hK hP hD hS hA hZ (hT_truth cs v_44 z_45.1 z_45.2 hv_45) (cw_truth hts (fr := n + 2) (by show n + 2 + 1 ≤ n + 1 + 2; omega) (by show 8 + (4 + 11) + 60 * (n + 2) ≤ 60 * (n + 1 + 2); omega)) rfl hl.1 (Nat.le_of_ble_eq_true rfl) ⟨Nat.zero_le _, Nat.zero_le _⟩ dX12_eval_280 (fun H locs hP hD hS => ?_)
                        refine lv_iconst (v := 1) hx hb dX12_eval_283 (by decide) ?_
                        refine lv_icmp_ne (tgt := 300) hx hb dX12_eval_284 (by decide) (fun c_46 => ?_) (fun c_46 => ?_)
                        · skip
                          replace h := (if_neg c_46).symm.trans h
                          refine lv_aload_n hx hb dX12_eval_300 rfl (lv_at hl 1 rfl) ?_
                          refine lv_aload_n hx hb dX12_eval_301 rfl (lv_at hl 1 rfl) ?_
                          refine fg_26 hx hb hts hown hK hP dX12_eval_302 ?_
                          refine lv_iload_n hx hb dX12_eval_305 rfl (lv_at hl 2 rfl) ?_
                          obtain ⟨v_47, hv_47, h⟩ := ob h
                          refine ag_26 hx hb hK hP hv_47 dX12_eval_306 ?_
                          obtain ⟨z_48, hv_48, h⟩ := ob h
                          refine calL (As := [.int v_47]) hx hb hml hts hown hK hP hD hS hA hZ (hT_eval z_45.1 v_47 z_48.1 z_48.2 hv_48) (cw_eval hts (fr := n + 2) (by show n + 2 + 1 ≤ n + 1 + 2; omega) (by show 8 + (8 + 11) + 60 * (n + 2) ≤ 60 * (n + 1 + 2); omega)) rfl hl.1 (Nat.le_of_ble_eq_true rfl) ⟨Nat.zero_le _, Nat.zero_le _⟩ dX12_eval_307 (fun H locs hP hD hS => ?_)
                          exact B_310 z_48.1 z_48.2 h _ _ _ hP hD hS (lv_sub hl [] rfl)
                        · skip
                          replace h := (if_pos c_46).symm.trans h
                          refine lv_aload_n hx hb dX12_eval_287 rfl (lv_at hl 1 rfl) ?_
                          refine lv_aload_n hx hb dX12_eval_288 rfl (lv_at hl 1 rfl) ?_
                          refine fg_25 hx hb hts hown hK hP dX12_eval_289 ?_
                          refine lv_iload_n hx hb dX12_eval_292 rfl (lv_at hl 2 rfl) ?_
                          obtain ⟨v_49, hv_49, h⟩ := ob h
                          refine ag_25 hx hb hK hP hv_49 dX12_eval_293 ?_
                          obtain ⟨z_50, hv_50, h⟩ := ob h
                          refine calL (As := [.int v_49]) hx hb hml hts hown hK hP hD hS hA hZ (hT_eval z_45.1 v_49 z_50.1 z_50.2 hv_50) (cw_eval hts (fr := n + 2) (by show n + 2 + 1 ≤ n + 1 + 2; omega) (by show 8 + (8 + 11) + 60 * (n + 2) ≤ 60 * (n + 1 + 2); omega)) rfl hl.1 (Nat.le_of_ble_eq_true rfl) ⟨Nat.zero_le _, Nat.zero_le _⟩ dX12_eval_294 (fun H locs hP hD hS => ?_)
                          refine lv_goto (tgt := 310) hx hb dX12_eval_297 (by decide) ?_
                          exact B_310 z_50.1 z_50.2 h _ _ _ hP hD hS (lv_sub hl [] rfl)
                    · skip
                      replace h := (if_pos c_29).symm.trans h
                      refine lv_aload_n hx hb dX12_eval_221 rfl (lv_at hl 1 rfl) ?_
                      refine lv_aload_n hx hb dX12_eval_222 rfl (lv_at hl 1 rfl) ?_
                      refine fg_24 hx hb hts hown hK hP dX12_eval_223 ?_
                      refine lv_iload_n hx hb dX12_eval_226 rfl (lv_at hl 2 rfl) ?_
                      obtain ⟨v_51, hv_51, h⟩ := ob h
                      refine ag_24 hx hb hK hP hv_51 dX12_eval_227 ?_
                      obtain ⟨z_52, hv_52, h⟩ := ob h
                      refine calL (As := [.int v_51]) hx hb hml hts hown hK hP hD hS hA hZ (hT_eval cs v_51 z_52.1 z_52.2 hv_52) (cw_eval hts (fr := n + 2) (by show n + 2 + 1 ≤ n + 1 + 2; omega) (by show 8 + (8 + 11) + 60 * (n + 2) ≤ 60 * (n + 1 + 2); omega)) rfl hl.1 (Nat.le_of_ble_eq_true rfl) ⟨Nat.zero_le _, Nat.zero_le _⟩ dX12_eval_228 (fun H locs hP hD hS => ?_)
                      refine lv_lstore_n (lv' := [(3, .long z_52.2), (2, .int v_19), (0, .ref h0), (1, .int x1)]) hx hb dX12_eval_231 rfl hl (by decide) rfl (fun ls hl => ?_)
                      refine lv_aload_n hx hb dX12_eval_232 rfl (lv_at hl 2 rfl) ?_
                      refine fg_92 hx hb hts hown hK hP dX12_eval_233 ?_
                      refine lv_istore (lv' := [(5, .int (z_52.1.1 92)), (3, .long z_52.2), (2, .int v_19), (0, .ref h0), (1, .int x1)]) hx hb dX12_eval_236 hl (by decide) rfl (fun ls hl => ?_)
                      refine lv_aload_n hx hb dX12_eval_238 rfl (lv_at hl 3 rfl) ?_
                      refine lv_iload hx hb dX12_eval_239 (lv_at hl 0 rfl) ?_
                      refine lv_aload_n hx hb dX12_eval_241 rfl (lv_at hl 3 rfl) ?_
                      refine fg_27 hx hb hts hown hK hP dX12_eval_242 ?_
                      refine lv_iload_n hx hb dX12_eval_245 rfl (lv_at hl 4 rfl) ?_
                      obtain ⟨v_53, hv_53, h⟩ := ob h
                      refine ag_27 hx hb hK hP hv_53 dX12_eval_246 ?_
                      refine lv_if_ne (tgt := 254) hx hb dX12_eval_247 (by decide) (fun c_54 => ?_) (fun c_54 => ?_)
                      · skip
                        replace h := (if_neg c_54).symm.trans h
                        refine lv_iconst (v := 0) hx hb dX12_eval_254 (by decide) ?_
                        exact B_255 z_52.1 0 (z_52.1.1 92) h _ _ _ hP hD hS (lv_sub hl [] rfl)
                      · skip
                        replace h := (if_pos c_54).symm.trans h
                        refine lv_iconst (v := 1) hx hb dX12_eval_250 (by decide) ?_
                        refine lv_goto (tgt := 255) hx hb dX12_eval_251 (by decide) ?_
                        exact B_255 z_52.1 1 (z_52.1.1 92) h _ _ _ hP hD hS (lv_sub hl [] rfl)
                  · skip
                    replace h := (if_pos c_28).symm.trans h
                    refine lv_aload_n hx hb dX12_eval_187 rfl (lv_at hl 1 rfl) ?_
                    refine lv_aload_n hx hb dX12_eval_188 rfl (lv_at hl 1 rfl) ?_
                    refine fg_24 hx hb hts hown hK hP dX12_eval_189 ?_
                    refine lv_iload_n hx hb dX12_eval_192 rfl (lv_at hl 2 rfl) ?_
                    obtain ⟨v_55, hv_55, h⟩ := ob h
                    refine ag_24 hx hb hK hP hv_55 dX12_eval_193 ?_
                    obtain ⟨z_56, hv_56, h⟩ := ob h
                    refine calI (As := [.int v_55]) hx hb hml hts hown hK hP hD hS hA hZ (hT_truth cs v_55 z_56.1 z_56.2 hv_56) (cw_truth hts (fr := n + 2) (by show n + 2 + 1 ≤ n + 1 + 2; omega) (by show 8 + (4 + 11) + 60 * (n + 2) ≤ 60 * (n + 1 + 2); omega)) rfl hl.1 (Nat.le_of_ble_eq_true rfl) ⟨Nat.zero_le _, Nat.zero_le _⟩ dX12_eval_194 (fun H locs hP hD hS => ?_)
                    refine lv_istore_n (lv' := [(3, .int z_56.2), (2, .int v_19), (0, .ref h0), (1, .int x1)]) hx hb dX12_eval_197 rfl hl (by decide) rfl (fun ls hl => ?_)
                    refine lv_aload_n hx hb dX12_eval_198 rfl (lv_at hl 2 rfl) ?_
                    refine lv_iload_n hx hb dX12_eval_199 rfl (lv_at hl 0 rfl) ?_
                    refine lv_iconst (v := 2) hx hb dX12_eval_200 (by decide) ?_
                    refine lv_icmp_ne (tgt := 208) hx hb dX12_eval_201 (by decide) (fun c_57 => ?_) (fun c_57 => ?_)
                    · skip
                      replace h := (if_neg c_57).symm.trans h
                      refine lv_iconst (v := 1) hx hb dX12_eval_208 (by decide) ?_
                      refine lv_iload_n hx hb dX12_eval_209 rfl (lv_at hl 0 rfl) ?_
                      refine lv_isub hx hb dX12_eval_210 ?_
                      exact B_211 z_56.1 (1 - z_56.2) h _ _ _ hP hD hS (lv_sub hl [] rfl)
                    · skip
                      replace h := (if_pos c_57).symm.trans h
                      refine lv_iconst (v := 2) hx hb dX12_eval_204 (by decide) ?_
                      refine lv_goto (tgt := 211) hx hb dX12_eval_205 (by decide) ?_
                      exact B_211 z_56.1 2 h _ _ _ hP hD hS (lv_sub hl [] rfl)
                · skip
                  replace h := (if_pos c_27).symm.trans h
                  exact B_142 cs x1 v_19 h _ _ _ hP hD hS (lv_sub hl [1, 2, 0] rfl)
            · skip
              replace h := (if_neg c_25).symm.trans h
              refine lv_aload_n hx hb dX12_eval_123 rfl (lv_at hl 1 rfl) ?_
              refine lv_iload_n hx hb dX12_eval_124 rfl (lv_at hl 2 rfl) ?_
              refine lv_iload_n hx hb dX12_eval_125 rfl (lv_at hl 0 rfl) ?_
              obtain ⟨z_58, hv_58, h⟩ := ob h
              refine calL (As := [.int x1, .int v_19]) hx hb hml hts hown hK hP hD hS hA hZ (hT_aggregated cs x1 v_19 z_58.1 z_58.2 hv_58) (cw_aggregated hts (fr := n + 2) (by show n + 2 + 1 ≤ n + 1 + 2; omega) (by show 8 + (13 + 11) + 60 * (n + 2) ≤ 60 * (n + 1 + 2); omega)) rfl hl.1 (Nat.le_of_ble_eq_true rfl) ⟨Nat.zero_le _, Nat.zero_le _⟩ dX12_eval_126 (fun H locs hP hD hS => ?_)
              obtain ⟨e1, e2⟩ := Prod.mk.inj (Option.some.inj h)
              rw [e1] at hP hD
              exact W.lret (v := z_58.2) hx hb hr (fun t_ ht hW => ⟨⟨z_58.2, (), rfl, e2, by rw [ht]; exact hP, hD⟩, hS.F ht⟩) hS.2.2 dX12_eval_129
          · skip
            replace h := (if_pos c_24).symm.trans h
            refine lv_aload_n hx hb dX12_eval_63 rfl (lv_at hl 1 rfl) ?_
            refine fg_97 hx hb hts hown hK hP dX12_eval_64 ?_
            refine lv_if_eq (tgt := 77) hx hb dX12_eval_67 (by decide) (fun c_59 => ?_) (fun c_59 => ?_)
            · skip
              replace h := (if_pos c_59).symm.trans h
              refine lv_aload_n hx hb dX12_eval_77 rfl (lv_at hl 1 rfl) ?_
              refine fg_93 hx hb hts hown hK hP dX12_eval_78 ?_
              exact B_81 cs x1 (cs.1 93) h _ _ _ hP hD hS (lv_sub hl [1, 2] rfl)
            · skip
              replace h := (if_neg c_59).symm.trans h
              refine lv_aload_n hx hb dX12_eval_70 rfl (lv_at hl 1 rfl) ?_
              refine fg_94 hx hb hts hown hK hP dX12_eval_71 ?_
              refine lv_goto (tgt := 81) hx hb dX12_eval_74 (by decide) ?_
              exact B_81 cs x1 (cs.1 94) h _ _ _ hP hD hS (lv_sub hl [1, 2] rfl)
        · skip
          replace h := (if_pos c_23).symm.trans h
          exact B_43 cs v_19 h _ _ _ hP hD hS (lv_sub hl [1, 0] rfl)
    · skip
      replace h := (if_pos c_21).symm.trans h
      refine lv_aload_n hx hb dX12_eval_28 rfl (lv_at hl 1 rfl) ?_
      obtain ⟨z_60, hv_60, h⟩ := ob h
      refine calL (As := []) hx hb hml hts hown hK hP hD hS hA hZ (s_nothing0 l dC dI cB cI cJ cZ h0 a K V fz F cs  z_60.1 z_60.2 hv_60) (cw_nothing0 hts (fr := 0) (by show 0 + 1 ≤ n + 1 + 2; omega) (by show 8 + (1 + 11) + 60 * (0) ≤ 60 * (n + 1 + 2); omega)) rfl hl.1 (Nat.le_of_ble_eq_true rfl) ⟨Nat.zero_le _, Nat.zero_le _⟩ dX12_eval_29 (fun H locs hP hD hS => ?_)
      obtain ⟨e1, e2⟩ := Prod.mk.inj (Option.some.inj h)
      rw [e1] at hP hD
      exact W.lret (v := z_60.2) hx hb hr (fun t_ ht hW => ⟨⟨z_60.2, (), rfl, e2, by rw [ht]; exact hP, hD⟩, hS.F ht⟩) hS.2.2 dX12_eval_32
  · skip
    replace h := (if_pos c_20).symm.trans h
    refine lv_aload_n hx hb dX12_eval_12 rfl (lv_at hl 1 rfl) ?_
    refine lv_aload_n hx hb dX12_eval_13 rfl (lv_at hl 1 rfl) ?_
    refine fg_28 hx hb hts hown hK hP dX12_eval_14 ?_
    refine lv_iload_n hx hb dX12_eval_17 rfl (lv_at hl 2 rfl) ?_
    obtain ⟨v_61, hv_61, h⟩ := ob h
    refine ag_28 hx hb hK hP hv_61 dX12_eval_18 ?_
    obtain ⟨z_62, hv_62, h⟩ := ob h
    refine calL (As := [.long v_61]) hx hb hml hts hown hK hP hD hS hA hZ (s_some l dC dI cB cI cJ cZ h0 a K V fz F cs v_61 z_62.1 z_62.2 hv_62) (cw_some hts (fr := 0) (by show 0 + 1 ≤ n + 1 + 2; omega) (by show 8 + (3 + 11) + 60 * (0) ≤ 60 * (n + 1 + 2); omega)) rfl hl.1 (Nat.le_of_ble_eq_true rfl) ⟨Nat.zero_le _, Nat.zero_le _⟩ dX12_eval_19 (fun H locs hP hD hS => ?_)
    obtain ⟨e1, e2⟩ := Prod.mk.inj (Option.some.inj h)
    rw [e1] at hP hD
    exact W.lret (v := z_62.2) hx hb hr (fun t_ ht hW => ⟨⟨z_62.2, (), rfl, e2, by rw [ht]; exact hP, hD⟩, hS.F ht⟩) hS.2.2 dX12_eval_22
set_option maxHeartbeats 4000000 in
set_option maxRecDepth 100000 in
theorem sb_aggregated (l : Launch) (dC : Nat → ClassId) (dI : Nat → Nat → Nat) (cB cI cJ cZ : ClassId) (h0 : Nat) (a : Nat → Nat) (K V : Nat → Nat) (fz : Value) (F : Nat) (n : Nat) (T : TG_truth) (hT_truth : ∀ (cs : RS) (x1 : Int32) (cs9 : RS) (r9 : Int32), T.1 cs x1 = some (cs9, r9) → okI l dC dI cB cI cJ cZ h0 a K V fz yX12_truth (wsOf yX12_truth cX12_truth 4 (some .int)) (n + 2) [.ref h0, .int x1] cs cs9 r9) (hT_eval : ∀ (cs : RS) (x1 : Int32) (cs9 : RS) (r9 : Int64), T.2.1 cs x1 = some (cs9, r9) → okL l dC dI cB cI cJ cZ h0 a K V fz yX12_eval (wsOf yX12_eval cX12_eval 8 (some .long)) (n + 2) [.ref h0, .int x1] cs cs9 r9) (hT_aggregated : ∀ (cs : RS) (x1 : Int32) (x2 : Int32) (cs9 : RS) (r9 : Int64), T.2.2.1 cs x1 x2 = some (cs9, r9) → okL l dC dI cB cI cJ cZ h0 a K V fz yX12_aggregated (wsOf yX12_aggregated cX12_aggregated 13 (some .long)) (n + 2) [.ref h0, .int x1, .int x2] cs cs9 r9) (hT_isOneOf : ∀ (cs : RS) (x1 : Int32) (cs9 : RS) (r9 : Int64), T.2.2.2 cs x1 = some (cs9, r9) → okL l dC dI cB cI cJ cZ h0 a K V fz yX12_isOneOf (wsOf yX12_isOneOf cX12_isOneOf 9 (some .long)) (n + 2) [.ref h0, .int x1] cs cs9 r9) (cs : RS) (x1 : Int32) (x2 : Int32) (cs9 : RS) (r9 : Int64) (hf : b_aggregated F T cs x1 x2 = some (cs9, r9)) : okL l dC dI cB cI cJ cZ h0 a K V fz yX12_aggregated (wsOf yX12_aggregated cX12_aggregated 13 (some .long)) (n + 1 + 2) [.ref h0, .int x1, .int x2] cs cs9 r9 := by
  intro sz
  refine Met.ofW (cc := cX12_aggregated) (maxL := 13) (ret := (some .long)) (by decide) rfl ?_
  intro p e s m args below meth c s₁ B hml hv
  obtain ⟨rfl, hsz, hP, hK, hD0, hZ⟩ := hv
  have hx := B.exec
  have hb := B.bytes
  have hr := B.returns
  have hts := atoms_spec (ws := (wsOf yX12_aggregated cX12_aggregated 13 (some .long))) B.pre
  have hown : s.vm.findClass RX12 = some m.cls := findClass_of_methodNamed B.named
  have hlocks := B.notSynchronized
  subst hsz
  have hD := hD0.self (sz := s.heap.size)
  generalize hAe : va_A (mW cB cI cJ cZ h0 a cs) s.heap.size = A at hD hZ ⊢
  have hA : ∀ q : Nat, s.heap.size ≤ q → A q := fun q h => by rw [← hAe]; exact Or.inr h
  have hS : va_S A s.heap s.heap [] := va_S.rf
  have hl := lv_entry ([.ref h0, .int x1, .int x2]) (n := 13) (Nat.le_of_ble_eq_true rfl)
  rw [lg_entry_eq]
  generalize (lg_sl ([.ref h0, .int x1, .int x2]) ++ List.replicate (13 - (lg_sl ([.ref h0, .int x1, .int x2])).length) Slot.unset).toArray = ls at hl ⊢
  have hl : lv_has ls 13 [(0, .ref h0), (1, .int x1), (2, .int x2)] := hl
  have B_192 : ∀ (cs1 : RS) (u3 : Int64), m_aggregated_b192 F T cs1 u3 = some (cs9, r9) → ∀ (H : Heap) (locs : List Loc) (ls : Array Slot), va_P (dC, dI) vwCl (mW cB cI cJ cZ h0 a cs1) H → va_D A (mW cB cI cJ cZ h0 a cs1) → va_S A s.heap H locs → lv_has ls 13 [(0, .ref h0), (3, .long u3)] → W p l e (headSpec (wsOf yX12_aggregated cX12_aggregated 13 (some .long)) ({ frames := n + 1 + 2, cells := 0, slots := 0, locals := 60 * (n + 1 + 2) } : Room)).room s m ([.ref h0, .int x1, .int x2] : List Value).toArray below meth c H locs 0 0 (MQ below (va_Ql (fun (x : Int64) (_ : Unit) => x = r9) (fun _ t_ => va_P (dC, dI) vwCl (mW cB cI cJ cZ h0 a cs9) t_.heap ∧ va_D A (mW cB cI cJ cZ h0 a cs9)) A) ([.ref h0, .int x1, .int x2] : List Value).toArray s 0 0 A) (F0 m 192 ls []) := by
    intro cs1 u3 h H locs ls hP hD hS hl
    unfold m_aggregated_b192 at h
    refine lv_aload_n hx hb dX12_aggregated_192 rfl (lv_at hl 0 rfl) ?_
    refine lv_lload_n hx hb dX12_aggregated_193 rfl (lv_at hl 1 rfl) ?_
    obtain ⟨z_1, hv_1, h⟩ := ob h
    refine calL (As := [.long u3]) hx hb hml hts hown hK hP hD hS hA hZ (s_some l dC dI cB cI cJ cZ h0 a K V fz F cs1 u3 z_1.1 z_1.2 hv_1) (cw_some hts (fr := 0) (by show 0 + 1 ≤ n + 1 + 2; omega) (by show 8 + (3 + 11) + 60 * (0) ≤ 60 * (n + 1 + 2); omega)) rfl hl.1 (Nat.le_of_ble_eq_true rfl) ⟨Nat.zero_le _, Nat.zero_le _⟩ dX12_aggregated_194 (fun H locs hP hD hS => ?_)
    obtain ⟨e1, e2⟩ := Prod.mk.inj (Option.some.inj h)
    rw [e1] at hP hD
    exact W.lret (v := z_1.2) hx hb hr (fun t_ ht hW => ⟨⟨z_1.2, (), rfl, e2, by rw [ht]; exact hP, hD⟩, hS.F ht⟩) hS.2.2 dX12_aggregated_197
  have B_216 : ∀ (cs1 : RS) (y0 : Int64), m_aggregated_b216 F T cs1 y0 = some (cs9, r9) → ∀ (H : Heap) (locs : List Loc) (ls : Array Slot), va_P (dC, dI) vwCl (mW cB cI cJ cZ h0 a cs1) H → va_D A (mW cB cI cJ cZ h0 a cs1) → va_S A s.heap H locs → lv_has ls 13 [] → W p l e (headSpec (wsOf yX12_aggregated cX12_aggregated 13 (some .long)) ({ frames := n + 1 + 2, cells := 0, slots := 0, locals := 60 * (n + 1 + 2) } : Room)).room s m ([.ref h0, .int x1, .int x2] : List Value).toArray below meth c H locs 0 0 (MQ below (va_Ql (fun (x : Int64) (_ : Unit) => x = r9) (fun _ t_ => va_P (dC, dI) vwCl (mW cB cI cJ cZ h0 a cs9) t_.heap ∧ va_D A (mW cB cI cJ cZ h0 a cs9)) A) ([.ref h0, .int x1, .int x2] : List Value).toArray s 0 0 A) (F0 m 216 ls [.long y0]) := by
    intro cs1 y0 h H locs ls hP hD hS hl
    unfold m_aggregated_b216 at h
    obtain ⟨e1, e2⟩ := Prod.mk.inj (Option.some.inj h)
    rw [e1] at hP hD
    exact W.lret (v := y0) hx hb hr (fun t_ ht hW => ⟨⟨y0, (), rfl, e2, by rw [ht]; exact hP, hD⟩, hS.F ht⟩) hS.2.2 dX12_aggregated_216
  have L_28 : ∀ (lf_28 : Nat), ∀ (cs1 : RS) (u1 : Int32) (u2 : Int32) (u3 : Int64) (u5 : Int64) (u7 : Int32) (u8 : Int32) (u9 : Int32) (u10 : Int32), m_aggregated_L28 F T lf_28 cs1 u1 u2 u3 u5 u7 u8 u9 u10 = some (cs9, r9) → ∀ (H : Heap) (locs : List Loc) (ls : Array Slot), va_P (dC, dI) vwCl (mW cB cI cJ cZ h0 a cs1) H → va_D A (mW cB cI cJ cZ h0 a cs1) → va_S A s.heap H locs → lv_has ls 13 [(0, .ref h0), (1, .int u1), (2, .int u2), (3, .long u3), (5, .long u5), (7, .int u7), (8, .int u8), (9, .int u9), (10, .int u10)] → W p l e (headSpec (wsOf yX12_aggregated cX12_aggregated 13 (some .long)) ({ frames := n + 1 + 2, cells := 0, slots := 0, locals := 60 * (n + 1 + 2) } : Room)).room s m ([.ref h0, .int x1, .int x2] : List Value).toArray below meth c H locs 0 0 (MQ below (va_Ql (fun (x : Int64) (_ : Unit) => x = r9) (fun _ t_ => va_P (dC, dI) vwCl (mW cB cI cJ cZ h0 a cs9) t_.heap ∧ va_D A (mW cB cI cJ cZ h0 a cs9)) A) ([.ref h0, .int x1, .int x2] : List Value).toArray s 0 0 A) (F0 m 28 ls []) := by
    intro lf_28
    induction lf_28 with
    | zero => intro cs1 u1 u2 u3 u5 u7 u8 u9 u10 h; cases (show (none : Option (RS × Int64)) = _ from h)
    | succ lf_28 ih_28 =>
      have B_162 : ∀ (cs1 : RS) (u1 : Int32) (u2 : Int32) (u3 : Int64) (u5 : Int64) (u7 : Int32) (u8 : Int32) (u9 : Int32) (u10 : Int32), m_aggregated_b162 F T (m_aggregated_L28 F T lf_28) cs1 u1 u2 u3 u5 u7 u8 u9 u10 = some (cs9, r9) → ∀ (H : Heap) (locs : List Loc) (ls : Array Slot), va_P (dC, dI) vwCl (mW cB cI cJ cZ h0 a cs1) H → va_D A (mW cB cI cJ cZ h0 a cs1) → va_S A s.heap H locs → lv_has ls 13 [(0, .ref h0), (1, .int u1), (2, .int u2), (3, .long u3), (5, .long u5), (7, .int u7), (8, .int u8), (9, .int u9), (10, .int u10)] → W p l e (headSpec (wsOf yX12_aggregated cX12_aggregated 13 (some .long)) ({ frames := n + 1 + 2, cells := 0, slots := 0, locals := 60 * (n + 1 + 2) } : Room)).room s m ([.ref h0, .int x1, .int x2] : List Value).toArray below meth c H locs 0 0 (MQ below (va_Ql (fun (x : Int64) (_ : Unit) => x = r9) (fun _ t_ => va_P (dC, dI) vwCl (mW cB cI cJ cZ h0 a cs9) t_.heap ∧ va_D A (mW cB cI cJ cZ h0 a cs9)) A) ([.ref h0, .int x1, .int x2] : List Value).toArray s 0 0 A) (F0 m 162 ls []) := by
        intro cs1 u1 u2 u3 u5 u7 u8 u9 u10 h H locs ls hP hD hS hl
        unfold m_aggregated_b162 at h
        refine lv_iinc (v := u10 + 1) (lv' := [(10, .int (u10 + 1)), (0, .ref h0), (1, .int u1), (2, .int u2), (3, .long u3), (5, .long u5), (7, .int u7), (8, .int u8), (9, .int u9)]) hx hb dX12_aggregated_162 hl (k := 8) rfl rfl (by decide) rfl (fun ls hl => ?_)
        refine lv_goto (tgt := 28) hx hb dX12_aggregated_165 (by decide) ?_
        exact ih_28 cs1 u1 u2 u3 u5 u7 u8 u9 (u10 + 1) h _ _ _ hP hD hS (lv_sub hl [1, 2, 3, 4, 5, 6, 7, 8, 0] rfl)
      have B_157 : ∀ (cs1 : RS) (u1 : Int32) (u2 : Int32) (u3 : Int64) (u8 : Int32) (u9 : Int32) (u10 : Int32) (y0 : Int64), m_aggregated_b157 F T (m_aggregated_L28 F T lf_28) cs1 u1 u2 u3 u8 u9 u10 y0 = some (cs9, r9) → ∀ (H : Heap) (locs : List Loc) (ls : Array Slot), va_P (dC, dI) vwCl (mW cB cI cJ cZ h0 a cs1) H → va_D A (mW cB cI cJ cZ h0 a cs1) → va_S A s.heap H locs → lv_has ls 13 [(0, .ref h0), (1, .int u1), (2, .int u2), (3, .long u3), (8, .int u8), (9, .int u9), (10, .int u10)] → W p l e (headSpec (wsOf yX12_aggregated cX12_aggregated 13 (some .long)) ({ frames := n + 1 + 2, cells := 0, slots := 0, locals := 60 * (n + 1 + 2) } : Room)).room s m ([.ref h0, .int x1, .int x2] : List Value).toArray below meth c H locs 0 0 (MQ below (va_Ql (fun (x : Int64) (_ : Unit) => x = r9) (fun _ t_ => va_P (dC, dI) vwCl (mW cB cI cJ cZ h0 a cs9) t_.heap ∧ va_D A (mW cB cI cJ cZ h0 a cs9)) A) ([.ref h0, .int x1, .int x2] : List Value).toArray s 0 0 A) (F0 m 157 ls [.long y0]) := by
        intro cs1 u1 u2 u3 u8 u9 u10 y0 h H locs ls hP hD hS hl
        unfold m_aggregated_b157 at h
        refine lv_lstore (lv' := [(5, .long y0), (0, .ref h0), (1, .int u1), (2, .int u2), (3, .long u3), (8, .int u8), (9, .int u9), (10, .int u10)]) hx hb dX12_aggregated_157 hl (by decide) rfl (fun ls hl => ?_)
        refine lv_iconst (v := 1) hx hb dX12_aggregated_159 (by decide) ?_
        refine lv_istore (lv' := [(7, .int 1), (5, .long y0), (0, .ref h0), (1, .int u1), (2, .int u2), (3, .long u3), (8, .int u8), (9, .int u9), (10, .int u10)]) hx hb dX12_aggregated_160 hl (by decide) rfl (fun ls hl => ?_)
        exact B_162 cs1 u1 u2 u3 y0 1 u8 u9 u10 h _ _ _ hP hD hS (lv_sub hl [2, 3, 4, 5, 1, 0, 6, 7, 8] rfl)
      have B_150 : ∀ (cs1 : RS) (u1 : Int32) (u2 : Int32) (u3 : Int64) (u8 : Int32) (u9 : Int32) (u10 : Int32) (u11 : Int64), m_aggregated_b150 F T (m_aggregated_L28 F T lf_28) cs1 u1 u2 u3 u8 u9 u10 u11 = some (cs9, r9) → ∀ (H : Heap) (locs : List Loc) (ls : Array Slot), va_P (dC, dI) vwCl (mW cB cI cJ cZ h0 a cs1) H → va_D A (mW cB cI cJ cZ h0 a cs1) → va_S A s.heap H locs → lv_has ls 13 [(0, .ref h0), (1, .int u1), (2, .int u2), (3, .long u3), (8, .int u8), (9, .int u9), (10, .int u10), (11, .long u11)] → W p l e (headSpec (wsOf yX12_aggregated cX12_aggregated 13 (some .long)) ({ frames := n + 1 + 2, cells := 0, slots := 0, locals := 60 * (n + 1 + 2) } : Room)).room s m ([.ref h0, .int x1, .int x2] : List Value).toArray below meth c H locs 0 0 (MQ below (va_Ql (fun (x : Int64) (_ : Unit) => x = r9) (fun _ t_ => va_P (dC, dI) vwCl (mW cB cI cJ cZ h0 a cs9) t_.heap ∧ va_D A (mW cB cI cJ cZ h0 a cs9)) A) ([.ref h0, .int x1, .int x2] : List Value).toArray s 0 0 A) (F0 m 150 ls []) := by
        intro cs1 u1 u2 u3 u8 u9 u10 u11 h H locs ls hP hD hS hl
        unfold m_aggregated_b150 at h
        refine lv_lload hx hb dX12_aggregated_150 (lv_at hl 7 rfl) ?_
        refine lv_goto (tgt := 157) hx hb dX12_aggregated_152 (by decide) ?_
        exact B_157 cs1 u1 u2 u3 u8 u9 u10 u11 h _ _ _ hP hD hS (lv_sub hl [0, 1, 2, 3, 4, 5, 6] rfl)
      have B_155 : ∀ (cs1 : RS) (u1 : Int32) (u2 : Int32) (u3 : Int64) (u5 : Int64) (u8 : Int32) (u9 : Int32) (u10 : Int32), m_aggregated_b155 F T (m_aggregated_L28 F T lf_28) cs1 u1 u2 u3 u5 u8 u9 u10 = some (cs9, r9) → ∀ (H : Heap) (locs : List Loc) (ls : Array Slot), va_P (dC, dI) vwCl (mW cB cI cJ cZ h0 a cs1) H → va_D A (mW cB cI cJ cZ h0 a cs1) → va_S A s.heap H locs → lv_has ls 13 [(0, .ref h0), (1, .int u1), (2, .int u2), (3, .long u3), (5, .long u5), (8, .int u8), (9, .int u9), (10, .int u10)] → W p l e (headSpec (wsOf yX12_aggregated cX12_aggregated 13 (some .long)) ({ frames := n + 1 + 2, cells := 0, slots := 0, locals := 60 * (n + 1 + 2) } : Room)).room s m ([.ref h0, .int x1, .int x2] : List Value).toArray below meth c H locs 0 0 (MQ below (va_Ql (fun (x : Int64) (_ : Unit) => x = r9) (fun _ t_ => va_P (dC, dI) vwCl (mW cB cI cJ cZ h0 a cs9) t_.heap ∧ va_D A (mW cB cI cJ cZ h0 a cs9)) A) ([.ref h0, .int x1, .int x2] : List Value).toArray s 0 0 A) (F0 m 155 ls []) := by
        intro cs1 u1 u2 u3 u5 u8 u9 u10 h H locs ls hP hD hS hl
        unfold m_aggregated_b155 at h
        refine lv_lload hx hb dX12_aggregated_155 (lv_at hl 4 rfl) ?_
        exact B_157 cs1 u1 u2 u3 u8 u9 u10 u5 h _ _ _ hP hD hS (lv_sub hl [0, 1, 2, 3, 5, 6, 7] rfl)
      intro cs1 u1 u2 u3 u5 u7 u8 u9 u10 h H locs ls hP hD hS hl
      rw [m_aggregated_L28] at h
      refine lv_iload hx hb dX12_aggregated_28 (lv_at hl 8 rfl) ?_
      refine lv_aload_n hx hb dX12_aggregated_30 rfl (lv_at hl 0 rfl) ?_
      refine fg_89 hx hb hts hown hK hP dX12_aggregated_31 ?_
      refine lv_aload_n hx hb dX12_aggregated_34 rfl (lv_at hl 0 rfl) ?_
      refine fg_95 hx hb hts hown hK hP dX12_aggregated_35 ?_
      obtain ⟨v_2, hv_2, h⟩ := ob h
      refine ag_89 hx hb hK hP hv_2 dX12_aggregated_38 ?_
      refine lv_icmp_ge (tgt := 168) hx hb dX12_aggregated_39 (by decide) (fun c_3 => ?_) (fun c_3 => ?_)
      · skip
        replace h := (if_pos c_3).symm.trans h
        refine lv_aload_n hx hb dX12_aggregated_168 rfl (lv_at hl 0 rfl) ?_
        refine lv_iload hx hb dX12_aggregated_169 (lv_at hl 6 rfl) ?_
        obtain ⟨w_4, hw_4, h⟩ := ob h
        refine fp_97 hx hb hts hown hK hP hD hS (ckZ_some hw_4) dX12_aggregated_171 (fun H locs hP hD hS => ?_)
        refine lv_aload_n hx hb dX12_aggregated_174 rfl (lv_at hl 0 rfl) ?_
        refine lv_iload hx hb dX12_aggregated_175 (lv_at hl 7 rfl) ?_
        refine fp_93 hx hb hts hown hK hP hD hS dX12_aggregated_177 (fun H locs hP hD hS => ?_)
        refine lv_iload_n hx hb dX12_aggregated_180 rfl (lv_at hl 2 rfl) ?_
        refine lv_bipush (v := 20) hx hb dX12_aggregated_181 (by decide) ?_
        refine lv_icmp_eq (tgt := 192) hx hb dX12_aggregated_183 (by decide) (fun c_5 => ?_) (fun c_5 => ?_)
        · skip
          replace h := (if_pos c_5).symm.trans h
          exact B_192 (setF (setF cs1 97 u8) 93 u9) u3 h _ _ _ hP hD hS (lv_sub hl [0, 3] rfl)
        · skip
          replace h := (if_neg c_5).symm.trans h
          refine lv_iload_n hx hb dX12_aggregated_186 rfl (lv_at hl 2 rfl) ?_
          refine lv_bipush (v := 21) hx hb dX12_aggregated_187 (by decide) ?_
          refine lv_icmp_ne (tgt := 198) hx hb dX12_aggregated_189 (by decide) (fun c_6 => ?_) (fun c_6 => ?_)
          · skip
            replace h := (if_neg c_6).symm.trans h
            refine lv_iload hx hb dX12_aggregated_198 (lv_at hl 5 rfl) ?_
            refine lv_if_eq (tgt := 212) hx hb dX12_aggregated_200 (by decide) (fun c_7 => ?_) (fun c_7 => ?_)
            · skip
              replace h := (if_pos c_7).symm.trans h
              refine lv_aload_n hx hb dX12_aggregated_212 rfl (lv_at hl 0 rfl) ?_
              obtain ⟨z_8, hv_8, h⟩ := ob h
              refine calL (As := []) hx hb hml hts hown hK hP hD hS hA hZ (s_nothing0 l dC dI cB cI cJ cZ h0 a K V fz F (setF (setF cs1 97 u8) 93 u9)  z_8.1 z_8.2 hv_8) (cw_nothing0 hts (fr := 0) (by show 0 + 1 ≤ n + 1 + 2; omega) (by show 8 + (1 + 11) + 60 * (0) ≤ 60 * (n + 1 + 2); omega)) rfl hl.1 (Nat.le_of_ble_eq_true rfl) ⟨Nat.zero_le _, Nat.zero_le _⟩ dX12_aggregated_213 (fun H locs hP hD hS => ?_)
              exact B_216 z_8.1 z_8.2 h _ _ _ hP hD hS (lv_sub hl [] rfl)
            · skip
              replace h := (if_neg c_7).symm.trans h
              refine lv_aload_n hx hb dX12_aggregated_203 rfl (lv_at hl 0 rfl) ?_
              refine lv_lload hx hb dX12_aggregated_204 (lv_at hl 4 rfl) ?_
              obtain ⟨z_9, hv_9, h⟩ := ob h
              refine calL (As := [.long u5]) hx hb hml hts hown hK hP hD hS hA hZ (s_some l dC dI cB cI cJ cZ h0 a K V fz F (setF (setF cs1 97 u8) 93 u9) u5 z_9.1 z_9.2 hv_9) (cw_some hts (fr := 0) (by show 0 + 1 ≤ n + 1 + 2; omega) (by show 8 + (3 + 11) + 60 * (0) ≤ 60 * (n + 1 + 2); omega)) rfl hl.1 (Nat.le_of_ble_eq_true rfl) ⟨Nat.zero_le _, Nat.zero_le _⟩ dX12_aggregated_206 (fun H locs hP hD hS => ?_)
              refine lv_goto (tgt := 216) hx hb dX12_aggregated_209 (by decide) ?_
              exact B_216 z_9.1 z_9.2 h _ _ _ hP hD hS (lv_sub hl [] rfl)
          · skip
            replace h := (if_pos c_6).symm.trans h
            exact B_192 (setF (setF cs1 97 u8) 93 u9) u3 h _ _ _ hP hD hS (lv_sub hl [0, 3] rfl)
      · skip
        replace h := (if_neg c_3).symm.trans h
        refine lv_aload_n hx hb dX12_aggregated_42 rfl (lv_at hl 0 rfl) ?_
        refine fg_98 hx hb hts hown hK hP dX12_aggregated_43 ?_
        refine lv_iload hx hb dX12_aggregated_46 (lv_at hl 8 rfl) ?_
        obtain ⟨v_10, hv_10, h⟩ := ob h
        refine ag_98 hx hb hK hP hv_10 dX12_aggregated_48 ?_
        refine lv_aload_n hx hb dX12_aggregated_49 rfl (lv_at hl 0 rfl) ?_
        refine fg_96 hx hb hts hown hK hP dX12_aggregated_50 ?_
        refine lv_icmp_ne (tgt := 162) hx hb dX12_aggregated_53 (by decide) (fun c_11 => ?_) (fun c_11 => ?_)
        · skip
          replace h := (if_neg c_11).symm.trans h
          exact B_162 cs1 u1 u2 u3 u5 u7 u8 u9 u10 h _ _ _ hP hD hS (lv_sub hl [0, 1, 2, 3, 4, 5, 6, 7, 8] rfl)
        · skip
          replace h := (if_pos c_11).symm.trans h
          refine lv_iload_n hx hb dX12_aggregated_56 rfl (lv_at hl 2 rfl) ?_
          refine lv_bipush (v := 20) hx hb dX12_aggregated_57 (by decide) ?_
          refine lv_icmp_ne (tgt := 69) hx hb dX12_aggregated_59 (by decide) (fun c_12 => ?_) (fun c_12 => ?_)
          · skip
            replace h := (if_neg c_12).symm.trans h
            refine lv_aload_n hx hb dX12_aggregated_69 rfl (lv_at hl 0 rfl) ?_
            refine lv_aload_n hx hb dX12_aggregated_70 rfl (lv_at hl 0 rfl) ?_
            refine lv_aload_n hx hb dX12_aggregated_71 rfl (lv_at hl 0 rfl) ?_
            refine fg_95 hx hb hts hown hK hP dX12_aggregated_72 ?_
            refine lv_iload hx hb dX12_aggregated_75 (lv_at hl 8 rfl) ?_
            obtain ⟨v_13, hv_13, h⟩ := ob h
            refine calI (As := [.int (cs1.1 95), .int u10]) hx hb hml hts hown hK hP hD hS hA hZ (s_rowAt l dC dI cB cI cJ cZ h0 a K V fz F cs1 (cs1.1 95) u10 v_13 hv_13) (cw_rowAt hts (fr := 0) (by show 0 + 1 ≤ n + 1 + 2; omega) (by show 8 + (3 + 11) + 60 * (0) ≤ 60 * (n + 1 + 2); omega)) rfl hl.1 (Nat.le_of_ble_eq_true rfl) ⟨Nat.zero_le _, Nat.zero_le _⟩ dX12_aggregated_77 (fun H locs hP hD hS => ?_)
            refine fp_93 hx hb hts hown hK hP hD hS dX12_aggregated_80 (fun H locs hP hD hS => ?_)
            refine lv_aload_n hx hb dX12_aggregated_83 rfl (lv_at hl 0 rfl) ?_
            refine lv_aload_n hx hb dX12_aggregated_84 rfl (lv_at hl 0 rfl) ?_
            refine fg_24 hx hb hts hown hK hP dX12_aggregated_85 ?_
            refine lv_iload_n hx hb dX12_aggregated_88 rfl (lv_at hl 1 rfl) ?_
            obtain ⟨v_14, hv_14, h⟩ := ob h
            refine ag_24 hx hb hK hP hv_14 dX12_aggregated_89 ?_
            obtain ⟨z_15, hv_15, h⟩ := ob h
            refine calL (As := [.int v_14]) hx hb hml hts hown hK hP hD hS hA hZ (hT_eval (setF cs1 93 v_13) v_14 z_15.1 z_15.2 hv_15) (cw_eval hts (fr := n + 2) (by show n + 2 + 1 ≤ n + 1 + 2; omega) (by show 8 + (8 + 11) + 60 * (n + 2) ≤ 60 * (n + 1 + 2); omega)) rfl hl.1 (Nat.le_of_ble_eq_true rfl) ⟨Nat.zero_le _, Nat.zero_le _⟩ dX12_aggregated_90 (fun H locs hP hD hS => ?_)
            refine lv_lstore (lv' := [(11, .long z_15.2), (0, .ref h0), (1, .int u1), (2, .int u2), (3, .long u3), (5, .long u5), (7, .int u7), (8, .int u8), (9, .int u9), (10, .int u10)]) hx hb dX12_aggregated_93 hl (by decide) rfl (fun ls hl => ?_)
            refine lv_aload_n hx hb dX12_aggregated_95 rfl (lv_at hl 1 rfl) ?_
            refine fg_92 hx hb hts hown hK hP dX12_aggregated_96 ?_
            refine lv_if_ne (tgt := 162) hx hb dX12_aggregated_99 (by decide) (fun c_16 => ?_) (fun c_16 => ?_)
            · skip
              replace h := (if_neg c_16).symm.trans h
              exact B_162 z_15.1 u1 u2 u3 u5 u7 u8 u9 u10 h _ _ _ hP hD hS (lv_sub hl [1, 2, 3, 4, 5, 6, 7, 8, 9] rfl)
            · skip
              replace h := (if_pos c_16).symm.trans h
              refine lv_lload_n hx hb dX12_aggregated_102 rfl (lv_at hl 4 rfl) ?_
              refine lv_lconst (v := 1) hx hb dX12_aggregated_103 (by decide) ?_
              refine lv_ladd hx hb dX12_aggregated_104 ?_
              refine lv_lstore_n (lv' := [(3, .long (u3 + 1)), (11, .long z_15.2), (0, .ref h0), (1, .int u1), (2, .int u2), (5, .long u5), (7, .int u7), (8, .int u8), (9, .int u9), (10, .int u10)]) hx hb dX12_aggregated_105 rfl hl (by decide) rfl (fun ls hl => ?_)
              refine lv_iload_n hx hb dX12_aggregated_106 rfl (lv_at hl 4 rfl) ?_
              refine lv_bipush (v := 22) hx hb dX12_aggregated_107 (by decide) ?_
              refine lv_icmp_ne (tgt := 120) hx hb dX12_aggregated_109 (by decide) (fun c_17 => ?_) (fun c_17 => ?_)
              · skip
                replace h := (if_neg c_17).symm.trans h
                refine lv_iload hx hb dX12_aggregated_120 (lv_at hl 6 rfl) ?_
                refine lv_if_eq (tgt := 150) hx hb dX12_aggregated_122 (by decide) (fun c_18 => ?_) (fun c_18 => ?_)
                · skip
                  replace h := (if_pos c_18).symm.trans h
                  exact B_150 z_15.1 u1 u2 (u3 + 1) u8 u9 u10 z_15.2 h _ _ _ hP hD hS (lv_sub hl [2, 3, 4, 0, 7, 8, 9, 1] rfl)
                · skip
                  replace h := (if_neg c_18).symm.trans h
                  refine lv_iload_n hx hb dX12_aggregated_125 rfl (lv_at hl 4 rfl) ?_
                  refine lv_bipush (v := 23) hx hb dX12_aggregated_126 (by decide) ?_
                  refine lv_icmp_ne (tgt := 142) hx hb dX12_aggregated_128 (by decide) (fun c_19 => ?_) (fun c_19 => ?_)
                  · skip
                    replace h := (if_neg c_19).symm.trans h
                    refine lv_lload hx hb dX12_aggregated_142 (lv_at hl 1 rfl) ?_
                    refine lv_lload hx hb dX12_aggregated_144 (lv_at hl 5 rfl) ?_
                    refine W.lcmp hx hb dX12_aggregated_146 ?_
                    refine lv_if_le (tgt := 155) hx hb dX12_aggregated_147 (by decide) (fun c_20 => ?_) (fun c_20 => ?_)
                    · skip
                      have c_20 : z_15.2 ≤ u5 := (lg_cmp_le _ _).mp c_20
                      replace h := (if_pos c_20).symm.trans h
                      exact B_155 z_15.1 u1 u2 (u3 + 1) u5 u8 u9 u10 h _ _ _ hP hD hS (lv_sub hl [2, 3, 4, 0, 5, 7, 8, 9] rfl)
                    · skip
                      have c_20 : ¬ (z_15.2 ≤ u5) := fun h9 => c_20 ((lg_cmp_le _ _).mpr h9)
                      replace h := (if_neg c_20).symm.trans h
                      exact B_150 z_15.1 u1 u2 (u3 + 1) u8 u9 u10 z_15.2 h _ _ _ hP hD hS (lv_sub hl [2, 3, 4, 0, 7, 8, 9, 1] rfl)
                  · skip
                    replace h := (if_pos c_19).symm.trans h
                    refine lv_lload hx hb dX12_aggregated_131 (lv_at hl 1 rfl) ?_
                    refine lv_lload hx hb dX12_aggregated_133 (lv_at hl 5 rfl) ?_
                    refine W.lcmp hx hb dX12_aggregated_135 ?_
                    refine lv_if_ge (tgt := 155) hx hb dX12_aggregated_136 (by decide) (fun c_21 => ?_) (fun c_21 => ?_)
                    · skip
                      have c_21 : u5 ≤ z_15.2 := (lg_cmp_ge _ _).mp c_21
                      replace h := (if_pos c_21).symm.trans h
                      exact B_155 z_15.1 u1 u2 (u3 + 1) u5 u8 u9 u10 h _ _ _ hP hD hS (lv_sub hl [2, 3, 4, 0, 5, 7, 8, 9] rfl)
                    · skip
                      have c_21 : ¬ (u5 ≤ z_15.2) := fun h9 => c_21 ((lg_cmp_ge _ _).mpr h9)
                      replace h := (if_neg c_21).symm.trans h
                      refine lv_goto (tgt := 150) hx hb dX12_aggregated_139 (by decide) ?_
                      exact B_150 z_15.1 u1 u2 (u3 + 1) u8 u9 u10 z_15.2 h _ _ _ hP hD hS (lv_sub hl [2, 3, 4, 0, 7, 8, 9, 1] rfl)
              · skip
                replace h := (if_pos c_17).symm.trans h
                refine lv_lload hx hb dX12_aggregated_112 (lv_at hl 5 rfl) ?_
                refine lv_lload hx hb dX12_aggregated_114 (lv_at hl 1 rfl) ?_
                refine lv_ladd hx hb dX12_aggregated_116 ?_
                refine lv_goto (tgt := 157) hx hb dX12_aggregated_117 (by decide) ?_
                exact B_157 z_15.1 u1 u2 (u3 + 1) u8 u9 u10 (u5 + z_15.2) h _ _ _ hP hD hS (lv_sub hl [2, 3, 4, 0, 7, 8, 9] rfl)
          · skip
            replace h := (if_pos c_12).symm.trans h
            refine lv_lload_n hx hb dX12_aggregated_62 rfl (lv_at hl 3 rfl) ?_
            refine lv_lconst (v := 1) hx hb dX12_aggregated_63 (by decide) ?_
            refine lv_ladd hx hb dX12_aggregated_64 ?_
            refine lv_lstore_n (lv' := [(3, .long (u3 + 1)), (0, .ref h0), (1, .int u1), (2, .int u2), (5, .long u5), (7, .int u7), (8, .int u8), (9, .int u9), (10, .int u10)]) hx hb dX12_aggregated_65 rfl hl (by decide) rfl (fun ls hl => ?_)
            refine lv_goto (tgt := 162) hx hb dX12_aggregated_66 (by decide) ?_
            exact B_162 cs1 u1 u2 (u3 + 1) u5 u7 u8 u9 u10 h _ _ _ hP hD hS (lv_sub hl [1, 2, 3, 0, 4, 5, 6, 7, 8] rfl)
  have h := hf
  unfold b_aggregated at h
  refine lv_lconst (v := 0) hx hb dX12_aggregated_0 (by decide) ?_
  refine lv_lstore_n (lv' := [(3, .long 0), (0, .ref h0), (1, .int x1), (2, .int x2)]) hx hb dX12_aggregated_1 rfl hl (by decide) rfl (fun ls hl => ?_)
  refine lv_lconst (v := 0) hx hb dX12_aggregated_2 (by decide) ?_
  refine lv_lstore (lv' := [(5, .long 0), (3, .long 0), (0, .ref h0), (1, .int x1), (2, .int x2)]) hx hb dX12_aggregated_3 hl (by decide) rfl (fun ls hl => ?_)
  refine lv_iconst (v := 0) hx hb dX12_aggregated_5 (by decide) ?_
  refine lv_istore (lv' := [(7, .int 0), (5, .long 0), (3, .long 0), (0, .ref h0), (1, .int x1), (2, .int x2)]) hx hb dX12_aggregated_6 hl (by decide) rfl (fun ls hl => ?_)
  refine lv_aload_n hx hb dX12_aggregated_8 rfl (lv_at hl 3 rfl) ?_
  refine fg_97 hx hb hts hown hK hP dX12_aggregated_9 ?_
  refine lv_istore (lv' := [(8, .int (cs.1 97)), (7, .int 0), (5, .long 0), (3, .long 0), (0, .ref h0), (1, .int x1), (2, .int x2)]) hx hb dX12_aggregated_12 hl (by decide) rfl (fun ls hl => ?_)
  refine lv_aload_n hx hb dX12_aggregated_14 rfl (lv_at hl 4 rfl) ?_
  refine fg_93 hx hb hts hown hK hP dX12_aggregated_15 ?_
  refine lv_istore (lv' := [(9, .int (cs.1 93)), (8, .int (cs.1 97)), (7, .int 0), (5, .long 0), (3, .long 0), (0, .ref h0), (1, .int x1), (2, .int x2)]) hx hb dX12_aggregated_18 hl (by decide) rfl (fun ls hl => ?_)
  refine lv_aload_n hx hb dX12_aggregated_20 rfl (lv_at hl 5 rfl) ?_
  refine lv_iconst (v := 0) hx hb dX12_aggregated_21 (by decide) ?_
  refine fp_97 hx hb hts hown hK hP hD hS (Or.inl rfl) dX12_aggregated_22 (fun H locs hP hD hS => ?_)
  refine lv_iconst (v := 0) hx hb dX12_aggregated_25 (by decide) ?_
  refine lv_istore (lv' := [(10, .int 0), (9, .int (cs.1 93)), (8, .int (cs.1 97)), (7, .int 0), (5, .long 0), (3, .long 0), (0, .ref h0), (1, .int x1), (2, .int x2)]) hx hb dX12_aggregated_26 hl (by decide) rfl (fun ls hl => ?_)
  exact L_28 F (setF cs 97 0) x1 x2 0 0 0 (cs.1 97) (cs.1 93) 0 h _ _ _ hP hD hS (lv_sub hl [6, 7, 8, 5, 4, 3, 2, 1, 0] rfl)
set_option maxHeartbeats 4000000 in
set_option maxRecDepth 100000 in
theorem sb_isOneOf (l : Launch) (dC : Nat → ClassId) (dI : Nat → Nat → Nat) (cB cI cJ cZ : ClassId) (h0 : Nat) (a : Nat → Nat) (K V : Nat → Nat) (fz : Value) (F : Nat) (n : Nat) (T : TG_truth) (hT_truth : ∀ (cs : RS) (x1 : Int32) (cs9 : RS) (r9 : Int32), T.1 cs x1 = some (cs9, r9) → okI l dC dI cB cI cJ cZ h0 a K V fz yX12_truth (wsOf yX12_truth cX12_truth 4 (some .int)) (n + 2) [.ref h0, .int x1] cs cs9 r9) (hT_eval : ∀ (cs : RS) (x1 : Int32) (cs9 : RS) (r9 : Int64), T.2.1 cs x1 = some (cs9, r9) → okL l dC dI cB cI cJ cZ h0 a K V fz yX12_eval (wsOf yX12_eval cX12_eval 8 (some .long)) (n + 2) [.ref h0, .int x1] cs cs9 r9) (hT_aggregated : ∀ (cs : RS) (x1 : Int32) (x2 : Int32) (cs9 : RS) (r9 : Int64), T.2.2.1 cs x1 x2 = some (cs9, r9) → okL l dC dI cB cI cJ cZ h0 a K V fz yX12_aggregated (wsOf yX12_aggregated cX12_aggregated 13 (some .long)) (n + 2) [.ref h0, .int x1, .int x2] cs cs9 r9) (hT_isOneOf : ∀ (cs : RS) (x1 : Int32) (cs9 : RS) (r9 : Int64), T.2.2.2 cs x1 = some (cs9, r9) → okL l dC dI cB cI cJ cZ h0 a K V fz yX12_isOneOf (wsOf yX12_isOneOf cX12_isOneOf 9 (some .long)) (n + 2) [.ref h0, .int x1] cs cs9 r9) (cs : RS) (x1 : Int32) (cs9 : RS) (r9 : Int64) (hf : b_isOneOf F T cs x1 = some (cs9, r9)) : okL l dC dI cB cI cJ cZ h0 a K V fz yX12_isOneOf (wsOf yX12_isOneOf cX12_isOneOf 9 (some .long)) (n + 1 + 2) [.ref h0, .int x1] cs cs9 r9 := by
  intro sz
  refine Met.ofW (cc := cX12_isOneOf) (maxL := 9) (ret := (some .long)) (by decide) rfl ?_
  intro p e s m args below meth c s₁ B hml hv
  obtain ⟨rfl, hsz, hP, hK, hD0, hZ⟩ := hv
  have hx := B.exec
  have hb := B.bytes
  have hr := B.returns
  have hts := atoms_spec (ws := (wsOf yX12_isOneOf cX12_isOneOf 9 (some .long))) B.pre
  have hown : s.vm.findClass RX12 = some m.cls := findClass_of_methodNamed B.named
  have hlocks := B.notSynchronized
  subst hsz
  have hD := hD0.self (sz := s.heap.size)
  generalize hAe : va_A (mW cB cI cJ cZ h0 a cs) s.heap.size = A at hD hZ ⊢
  have hA : ∀ q : Nat, s.heap.size ≤ q → A q := fun q h => by rw [← hAe]; exact Or.inr h
  have hS : va_S A s.heap s.heap [] := va_S.rf
  have hl := lv_entry ([.ref h0, .int x1]) (n := 9) (Nat.le_of_ble_eq_true rfl)
  rw [lg_entry_eq]
  generalize (lg_sl ([.ref h0, .int x1]) ++ List.replicate (9 - (lg_sl ([.ref h0, .int x1])).length) Slot.unset).toArray = ls at hl ⊢
  have hl : lv_has ls 9 [(0, .ref h0), (1, .int x1)] := hl
  have B_131 : ∀ (cs1 : RS) (y0 : Int32), m_isOneOf_b131 F T cs1 y0 = some (cs9, r9) → ∀ (H : Heap) (locs : List Loc) (ls : Array Slot), va_P (dC, dI) vwCl (mW cB cI cJ cZ h0 a cs1) H → va_D A (mW cB cI cJ cZ h0 a cs1) → va_S A s.heap H locs → lv_has ls 9 [] → W p l e (headSpec (wsOf yX12_isOneOf cX12_isOneOf 9 (some .long)) ({ frames := n + 1 + 2, cells := 0, slots := 0, locals := 60 * (n + 1 + 2) } : Room)).room s m ([.ref h0, .int x1] : List Value).toArray below meth c H locs 0 0 (MQ below (va_Ql (fun (x : Int64) (_ : Unit) => x = r9) (fun _ t_ => va_P (dC, dI) vwCl (mW cB cI cJ cZ h0 a cs9) t_.heap ∧ va_D A (mW cB cI cJ cZ h0 a cs9)) A) ([.ref h0, .int x1] : List Value).toArray s 0 0 A) (F0 m 131 ls [.int y0, .ref h0]) := by
    intro cs1 y0 h H locs ls hP hD hS hl
    unfold m_isOneOf_b131 at h
    obtain ⟨z_1, hv_1, h⟩ := ob h
    refine calL (As := [.int y0]) hx hb hml hts hown hK hP hD hS hA hZ (s_ofTruth l dC dI cB cI cJ cZ h0 a K V fz F cs1 y0 z_1.1 z_1.2 hv_1) (cw_ofTruth hts (fr := 1) (by show 1 + 1 ≤ n + 1 + 2; omega) (by show 8 + (2 + 11) + 60 * (1) ≤ 60 * (n + 1 + 2); omega)) rfl hl.1 (Nat.le_of_ble_eq_true rfl) ⟨Nat.zero_le _, Nat.zero_le _⟩ dX12_isOneOf_131 (fun H locs hP hD hS => ?_)
    obtain ⟨e1, e2⟩ := Prod.mk.inj (Option.some.inj h)
    rw [e1] at hP hD
    exact W.lret (v := z_1.2) hx hb hr (fun t_ ht hW => ⟨⟨z_1.2, (), rfl, e2, by rw [ht]; exact hP, hD⟩, hS.F ht⟩) hS.2.2 dX12_isOneOf_134
  have L_37 : ∀ (lf_37 : Nat), ∀ (cs1 : RS) (u1 : Int32) (u2 : Int64) (u4 : Int32) (u5 : Int32) (u6 : Int32), m_isOneOf_L37 F T lf_37 cs1 u1 u2 u4 u5 u6 = some (cs9, r9) → ∀ (H : Heap) (locs : List Loc) (ls : Array Slot), va_P (dC, dI) vwCl (mW cB cI cJ cZ h0 a cs1) H → va_D A (mW cB cI cJ cZ h0 a cs1) → va_S A s.heap H locs → lv_has ls 9 [(0, .ref h0), (1, .int u1), (2, .long u2), (4, .int u4), (5, .int u5), (6, .int u6)] → W p l e (headSpec (wsOf yX12_isOneOf cX12_isOneOf 9 (some .long)) ({ frames := n + 1 + 2, cells := 0, slots := 0, locals := 60 * (n + 1 + 2) } : Room)).room s m ([.ref h0, .int x1] : List Value).toArray below meth c H locs 0 0 (MQ below (va_Ql (fun (x : Int64) (_ : Unit) => x = r9) (fun _ t_ => va_P (dC, dI) vwCl (mW cB cI cJ cZ h0 a cs9) t_.heap ∧ va_D A (mW cB cI cJ cZ h0 a cs9)) A) ([.ref h0, .int x1] : List Value).toArray s 0 0 A) (F0 m 37 ls []) := by
    intro lf_37
    induction lf_37 with
    | zero => intro cs1 u1 u2 u4 u5 u6 h; cases (show (none : Option (RS × Int64)) = _ from h)
    | succ lf_37 ih_37 =>
      have B_89 : ∀ (cs1 : RS) (u1 : Int32) (u2 : Int64) (u4 : Int32) (u5 : Int32) (u6 : Int32), m_isOneOf_b89 F T (m_isOneOf_L37 F T lf_37) cs1 u1 u2 u4 u5 u6 = some (cs9, r9) → ∀ (H : Heap) (locs : List Loc) (ls : Array Slot), va_P (dC, dI) vwCl (mW cB cI cJ cZ h0 a cs1) H → va_D A (mW cB cI cJ cZ h0 a cs1) → va_S A s.heap H locs → lv_has ls 9 [(0, .ref h0), (1, .int u1), (2, .long u2), (4, .int u4), (5, .int u5), (6, .int u6)] → W p l e (headSpec (wsOf yX12_isOneOf cX12_isOneOf 9 (some .long)) ({ frames := n + 1 + 2, cells := 0, slots := 0, locals := 60 * (n + 1 + 2) } : Room)).room s m ([.ref h0, .int x1] : List Value).toArray below meth c H locs 0 0 (MQ below (va_Ql (fun (x : Int64) (_ : Unit) => x = r9) (fun _ t_ => va_P (dC, dI) vwCl (mW cB cI cJ cZ h0 a cs9) t_.heap ∧ va_D A (mW cB cI cJ cZ h0 a cs9)) A) ([.ref h0, .int x1] : List Value).toArray s 0 0 A) (F0 m 89 ls []) := by
        intro cs1 u1 u2 u4 u5 u6 h H locs ls hP hD hS hl
        unfold m_isOneOf_b89 at h
        refine lv_aload_n hx hb dX12_isOneOf_89 rfl (lv_at hl 0 rfl) ?_
        refine fg_32 hx hb hts hown hK hP dX12_isOneOf_90 ?_
        refine lv_iload hx hb dX12_isOneOf_93 (lv_at hl 5 rfl) ?_
        obtain ⟨v_2, hv_2, h⟩ := ob h
        refine ag_32 hx hb hK hP hv_2 dX12_isOneOf_95 ?_
        refine lv_istore (lv' := [(6, .int v_2), (0, .ref h0), (1, .int u1), (2, .long u2), (4, .int u4), (5, .int u5)]) hx hb dX12_isOneOf_96 hl (by decide) rfl (fun ls hl => ?_)
        refine lv_goto (tgt := 37) hx hb dX12_isOneOf_98 (by decide) ?_
        exact ih_37 cs1 u1 u2 u4 u5 v_2 h _ _ _ hP hD hS (lv_sub hl [1, 2, 3, 4, 5, 0] rfl)
      have B_69 : ∀ (cs1 : RS) (u1 : Int32) (u2 : Int64) (u4 : Int32) (u6 : Int32) (y0 : Int32), m_isOneOf_b69 F T (m_isOneOf_L37 F T lf_37) cs1 u1 u2 u4 u6 y0 = some (cs9, r9) → ∀ (H : Heap) (locs : List Loc) (ls : Array Slot), va_P (dC, dI) vwCl (mW cB cI cJ cZ h0 a cs1) H → va_D A (mW cB cI cJ cZ h0 a cs1) → va_S A s.heap H locs → lv_has ls 9 [(0, .ref h0), (1, .int u1), (2, .long u2), (4, .int u4), (6, .int u6)] → W p l e (headSpec (wsOf yX12_isOneOf cX12_isOneOf 9 (some .long)) ({ frames := n + 1 + 2, cells := 0, slots := 0, locals := 60 * (n + 1 + 2) } : Room)).room s m ([.ref h0, .int x1] : List Value).toArray below meth c H locs 0 0 (MQ below (va_Ql (fun (x : Int64) (_ : Unit) => x = r9) (fun _ t_ => va_P (dC, dI) vwCl (mW cB cI cJ cZ h0 a cs9) t_.heap ∧ va_D A (mW cB cI cJ cZ h0 a cs9)) A) ([.ref h0, .int x1] : List Value).toArray s 0 0 A) (F0 m 69 ls [.int y0]) := by
        intro cs1 u1 u2 u4 u6 y0 h H locs ls hP hD hS hl
        unfold m_isOneOf_b69 at h
        refine lv_istore (lv' := [(5, .int y0), (0, .ref h0), (1, .int u1), (2, .long u2), (4, .int u4), (6, .int u6)]) hx hb dX12_isOneOf_69 hl (by decide) rfl (fun ls hl => ?_)
        refine lv_goto (tgt := 89) hx hb dX12_isOneOf_71 (by decide) ?_
        exact B_89 cs1 u1 u2 u4 y0 u6 h _ _ _ hP hD hS (lv_sub hl [1, 2, 3, 4, 0, 5] rfl)
      intro cs1 u1 u2 u4 u5 u6 h H locs ls hP hD hS hl
      rw [m_isOneOf_L37] at h
      refine lv_iload hx hb dX12_isOneOf_37 (lv_at hl 5 rfl) ?_
      refine lv_iconst (v := (-1)) hx hb dX12_isOneOf_39 (by decide) ?_
      refine lv_icmp_eq (tgt := 101) hx hb dX12_isOneOf_40 (by decide) (fun c_3 => ?_) (fun c_3 => ?_)
      · skip
        replace h := (if_pos c_3).symm.trans h
        refine lv_aload_n hx hb dX12_isOneOf_101 rfl (lv_at hl 0 rfl) ?_
        refine lv_iload hx hb dX12_isOneOf_102 (lv_at hl 4 rfl) ?_
        refine lv_iconst (v := 2) hx hb dX12_isOneOf_104 (by decide) ?_
        refine lv_icmp_ne (tgt := 112) hx hb dX12_isOneOf_105 (by decide) (fun c_4 => ?_) (fun c_4 => ?_)
        · skip
          replace h := (if_neg c_4).symm.trans h
          refine lv_aload_n hx hb dX12_isOneOf_112 rfl (lv_at hl 0 rfl) ?_
          refine fg_27 hx hb hts hown hK hP dX12_isOneOf_113 ?_
          refine lv_iload_n hx hb dX12_isOneOf_116 rfl (lv_at hl 1 rfl) ?_
          obtain ⟨v_5, hv_5, h⟩ := ob h
          refine ag_27 hx hb hK hP hv_5 dX12_isOneOf_117 ?_
          refine lv_iconst (v := 1) hx hb dX12_isOneOf_118 (by decide) ?_
          refine lv_icmp_ne (tgt := 129) hx hb dX12_isOneOf_119 (by decide) (fun c_6 => ?_) (fun c_6 => ?_)
          · skip
            replace h := (if_neg c_6).symm.trans h
            refine lv_iload hx hb dX12_isOneOf_129 (lv_at hl 4 rfl) ?_
            exact B_131 cs1 u5 h _ _ _ hP hD hS (lv_sub hl [] rfl)
          · skip
            replace h := (if_pos c_6).symm.trans h
            refine lv_iconst (v := 1) hx hb dX12_isOneOf_122 (by decide) ?_
            refine lv_iload hx hb dX12_isOneOf_123 (lv_at hl 4 rfl) ?_
            refine lv_isub hx hb dX12_isOneOf_125 ?_
            refine lv_goto (tgt := 131) hx hb dX12_isOneOf_126 (by decide) ?_
            exact B_131 cs1 (1 - u5) h _ _ _ hP hD hS (lv_sub hl [] rfl)
        · skip
          replace h := (if_pos c_4).symm.trans h
          refine lv_iconst (v := 2) hx hb dX12_isOneOf_108 (by decide) ?_
          refine lv_goto (tgt := 131) hx hb dX12_isOneOf_109 (by decide) ?_
          exact B_131 cs1 2 h _ _ _ hP hD hS (lv_sub hl [] rfl)
      · skip
        replace h := (if_neg c_3).symm.trans h
        refine lv_aload_n hx hb dX12_isOneOf_43 rfl (lv_at hl 0 rfl) ?_
        refine lv_iload hx hb dX12_isOneOf_44 (lv_at hl 5 rfl) ?_
        obtain ⟨z_7, hv_7, h⟩ := ob h
        refine calL (As := [.int u6]) hx hb hml hts hown hK hP hD hS hA hZ (hT_eval cs1 u6 z_7.1 z_7.2 hv_7) (cw_eval hts (fr := n + 2) (by show n + 2 + 1 ≤ n + 1 + 2; omega) (by show 8 + (8 + 11) + 60 * (n + 2) ≤ 60 * (n + 1 + 2); omega)) rfl hl.1 (Nat.le_of_ble_eq_true rfl) ⟨Nat.zero_le _, Nat.zero_le _⟩ dX12_isOneOf_46 (fun H locs hP hD hS => ?_)
        refine lv_lstore (lv' := [(7, .long z_7.2), (0, .ref h0), (1, .int u1), (2, .long u2), (4, .int u4), (5, .int u5), (6, .int u6)]) hx hb dX12_isOneOf_49 hl (by decide) rfl (fun ls hl => ?_)
        refine lv_aload_n hx hb dX12_isOneOf_51 rfl (lv_at hl 1 rfl) ?_
        refine fg_92 hx hb hts hown hK hP dX12_isOneOf_52 ?_
        refine lv_if_eq (tgt := 74) hx hb dX12_isOneOf_55 (by decide) (fun c_8 => ?_) (fun c_8 => ?_)
        · skip
          replace h := (if_pos c_8).symm.trans h
          refine lv_iload hx hb dX12_isOneOf_74 (lv_at hl 4 rfl) ?_
          refine lv_if_ne (tgt := 89) hx hb dX12_isOneOf_76 (by decide) (fun c_9 => ?_) (fun c_9 => ?_)
          · skip
            replace h := (if_neg c_9).symm.trans h
            exact B_89 z_7.1 u1 u2 u4 u5 u6 h _ _ _ hP hD hS (lv_sub hl [1, 2, 3, 4, 5, 6] rfl)
          · skip
            replace h := (if_pos c_9).symm.trans h
            refine lv_lload hx hb dX12_isOneOf_79 (lv_at hl 0 rfl) ?_
            refine lv_lload_n hx hb dX12_isOneOf_81 rfl (lv_at hl 3 rfl) ?_
            refine W.lcmp hx hb dX12_isOneOf_82 ?_
            refine lv_if_ne (tgt := 89) hx hb dX12_isOneOf_83 (by decide) (fun c_10 => ?_) (fun c_10 => ?_)
            · skip
              have c_10 : ¬ (z_7.2 = u2) := fun h9 => c_10 ((lg_cmp_eq _ _).mpr h9)
              replace h := (if_neg c_10).symm.trans h
              exact B_89 z_7.1 u1 u2 u4 u5 u6 h _ _ _ hP hD hS (lv_sub hl [1, 2, 3, 4, 5, 6] rfl)
            · skip
              have c_10 : z_7.2 = u2 := (lg_cmp_eq _ _).mp c_10
              replace h := (if_pos c_10).symm.trans h
              refine lv_iconst (v := 1) hx hb dX12_isOneOf_86 (by decide) ?_
              refine lv_istore (lv' := [(5, .int 1), (7, .long z_7.2), (0, .ref h0), (1, .int u1), (2, .long u2), (4, .int u4), (6, .int u6)]) hx hb dX12_isOneOf_87 hl (by decide) rfl (fun ls hl => ?_)
              exact B_89 z_7.1 u1 u2 u4 1 u6 h _ _ _ hP hD hS (lv_sub hl [2, 3, 4, 5, 0, 6] rfl)
        · skip
          replace h := (if_neg c_8).symm.trans h
          refine lv_iload hx hb dX12_isOneOf_58 (lv_at hl 5 rfl) ?_
          refine lv_iconst (v := 1) hx hb dX12_isOneOf_60 (by decide) ?_
          refine lv_icmp_ne (tgt := 68) hx hb dX12_isOneOf_61 (by decide) (fun c_11 => ?_) (fun c_11 => ?_)
          · skip
            replace h := (if_neg c_11).symm.trans h
            refine lv_iconst (v := 2) hx hb dX12_isOneOf_68 (by decide) ?_
            exact B_69 z_7.1 u1 u2 u4 u6 2 h _ _ _ hP hD hS (lv_sub hl [1, 2, 3, 4, 6] rfl)
          · skip
            replace h := (if_pos c_11).symm.trans h
            refine lv_iconst (v := 1) hx hb dX12_isOneOf_64 (by decide) ?_
            refine lv_goto (tgt := 69) hx hb dX12_isOneOf_65 (by decide) ?_
            exact B_69 z_7.1 u1 u2 u4 u6 1 h _ _ _ hP hD hS (lv_sub hl [1, 2, 3, 4, 6] rfl)
  have B_27 : ∀ (cs1 : RS) (u1 : Int32) (u2 : Int64) (u4 : Int32) (y0 : Int32), m_isOneOf_b27 F T cs1 u1 u2 u4 y0 = some (cs9, r9) → ∀ (H : Heap) (locs : List Loc) (ls : Array Slot), va_P (dC, dI) vwCl (mW cB cI cJ cZ h0 a cs1) H → va_D A (mW cB cI cJ cZ h0 a cs1) → va_S A s.heap H locs → lv_has ls 9 [(0, .ref h0), (1, .int u1), (2, .long u2), (4, .int u4)] → W p l e (headSpec (wsOf yX12_isOneOf cX12_isOneOf 9 (some .long)) ({ frames := n + 1 + 2, cells := 0, slots := 0, locals := 60 * (n + 1 + 2) } : Room)).room s m ([.ref h0, .int x1] : List Value).toArray below meth c H locs 0 0 (MQ below (va_Ql (fun (x : Int64) (_ : Unit) => x = r9) (fun _ t_ => va_P (dC, dI) vwCl (mW cB cI cJ cZ h0 a cs9) t_.heap ∧ va_D A (mW cB cI cJ cZ h0 a cs9)) A) ([.ref h0, .int x1] : List Value).toArray s 0 0 A) (F0 m 27 ls [.int y0]) := by
    intro cs1 u1 u2 u4 y0 h H locs ls hP hD hS hl
    unfold m_isOneOf_b27 at h
    refine lv_istore (lv' := [(5, .int y0), (0, .ref h0), (1, .int u1), (2, .long u2), (4, .int u4)]) hx hb dX12_isOneOf_27 hl (by decide) rfl (fun ls hl => ?_)
    refine lv_aload_n hx hb dX12_isOneOf_29 rfl (lv_at hl 1 rfl) ?_
    refine fg_25 hx hb hts hown hK hP dX12_isOneOf_30 ?_
    refine lv_iload_n hx hb dX12_isOneOf_33 rfl (lv_at hl 2 rfl) ?_
    obtain ⟨v_12, hv_12, h⟩ := ob h
    refine ag_25 hx hb hK hP hv_12 dX12_isOneOf_34 ?_
    refine lv_istore (lv' := [(6, .int v_12), (5, .int y0), (0, .ref h0), (1, .int u1), (2, .long u2), (4, .int u4)]) hx hb dX12_isOneOf_35 hl (by decide) rfl (fun ls hl => ?_)
    exact L_37 F cs1 u1 u2 u4 y0 v_12 h _ _ _ hP hD hS (lv_sub hl [2, 3, 4, 5, 1, 0] rfl)
  have h := hf
  unfold b_isOneOf at h
  refine lv_aload_n hx hb dX12_isOneOf_0 rfl (lv_at hl 0 rfl) ?_
  refine lv_aload_n hx hb dX12_isOneOf_1 rfl (lv_at hl 0 rfl) ?_
  refine fg_24 hx hb hts hown hK hP dX12_isOneOf_2 ?_
  refine lv_iload_n hx hb dX12_isOneOf_5 rfl (lv_at hl 1 rfl) ?_
  obtain ⟨v_13, hv_13, h⟩ := ob h
  refine ag_24 hx hb hK hP hv_13 dX12_isOneOf_6 ?_
  obtain ⟨z_14, hv_14, h⟩ := ob h
  refine calL (As := [.int v_13]) hx hb hml hts hown hK hP hD hS hA hZ (hT_eval cs v_13 z_14.1 z_14.2 hv_14) (cw_eval hts (fr := n + 2) (by show n + 2 + 1 ≤ n + 1 + 2; omega) (by show 8 + (8 + 11) + 60 * (n + 2) ≤ 60 * (n + 1 + 2); omega)) rfl hl.1 (Nat.le_of_ble_eq_true rfl) ⟨Nat.zero_le _, Nat.zero_le _⟩ dX12_isOneOf_7 (fun H locs hP hD hS => ?_)
  refine lv_lstore_n (lv' := [(2, .long z_14.2), (0, .ref h0), (1, .int x1)]) hx hb dX12_isOneOf_10 rfl hl (by decide) rfl (fun ls hl => ?_)
  refine lv_aload_n hx hb dX12_isOneOf_11 rfl (lv_at hl 1 rfl) ?_
  refine fg_92 hx hb hts hown hK hP dX12_isOneOf_12 ?_
  refine lv_istore (lv' := [(4, .int (z_14.1.1 92)), (2, .long z_14.2), (0, .ref h0), (1, .int x1)]) hx hb dX12_isOneOf_15 hl (by decide) rfl (fun ls hl => ?_)
  refine lv_iload hx hb dX12_isOneOf_17 (lv_at hl 0 rfl) ?_
  refine lv_if_eq (tgt := 26) hx hb dX12_isOneOf_19 (by decide) (fun c_15 => ?_) (fun c_15 => ?_)
  · skip
    replace h := (if_pos c_15).symm.trans h
    refine lv_iconst (v := 0) hx hb dX12_isOneOf_26 (by decide) ?_
    exact B_27 z_14.1 x1 z_14.2 (z_14.1.1 92) 0 h _ _ _ hP hD hS (lv_sub hl [2, 3, 1, 0] rfl)
  · skip
    replace h := (if_neg c_15).symm.trans h
    refine lv_iconst (v := 2) hx hb dX12_isOneOf_22 (by decide) ?_
    refine lv_goto (tgt := 27) hx hb dX12_isOneOf_23 (by decide) ?_
    exact B_27 z_14.1 x1 z_14.2 (z_14.1.1 92) 2 h _ _ _ hP hD hS (lv_sub hl [2, 3, 1, 0] rfl)
theorem sg_truth (l : Launch) (dC : Nat → ClassId) (dI : Nat → Nat → Nat) (cB cI cJ cZ : ClassId) (h0 : Nat) (a : Nat → Nat) (K V : Nat → Nat) (fz : Value) (F : Nat) : ∀ n : Nat, (∀ (cs : RS) (x1 : Int32) (cs9 : RS) (r9 : Int32), (tab_truth F n).1 cs x1 = some (cs9, r9) → okI l dC dI cB cI cJ cZ h0 a K V fz yX12_truth (wsOf yX12_truth cX12_truth 4 (some .int)) (n + 2) [.ref h0, .int x1] cs cs9 r9) ∧ (∀ (cs : RS) (x1 : Int32) (cs9 : RS) (r9 : Int64), (tab_truth F n).2.1 cs x1 = some (cs9, r9) → okL l dC dI cB cI cJ cZ h0 a K V fz yX12_eval (wsOf yX12_eval cX12_eval 8 (some .long)) (n + 2) [.ref h0, .int x1] cs cs9 r9) ∧ (∀ (cs : RS) (x1 : Int32) (x2 : Int32) (cs9 : RS) (r9 : Int64), (tab_truth F n).2.2.1 cs x1 x2 = some (cs9, r9) → okL l dC dI cB cI cJ cZ h0 a K V fz yX12_aggregated (wsOf yX12_aggregated cX12_aggregated 13 (some .long)) (n + 2) [.ref h0, .int x1, .int x2] cs cs9 r9) ∧ (∀ (cs : RS) (x1 : Int32) (cs9 : RS) (r9 : Int64), (tab_truth F n).2.2.2 cs x1 = some (cs9, r9) → okL l dC dI cB cI cJ cZ h0 a K V fz yX12_isOneOf (wsOf yX12_isOneOf cX12_isOneOf 9 (some .long)) (n + 2) [.ref h0, .int x1] cs cs9 r9) := by
  intro n
  induction n with
  | zero => exact ⟨fun _ _ _ _ h => (by cases (show (none : Option (RS × Int32)) = _ from h)), fun _ _ _ _ h => (by cases (show (none : Option (RS × Int64)) = _ from h)), fun _ _ _ _ _ h => (by cases (show (none : Option (RS × Int64)) = _ from h)), fun _ _ _ _ h => (by cases (show (none : Option (RS × Int64)) = _ from h))⟩
  | succ n ih =>
    obtain ⟨hh0, hh1, hh2, hh3⟩ := ih
    exact ⟨fun cs w0 w1 w2 hf => sb_truth l dC dI cB cI cJ cZ h0 a K V fz F n (tab_truth F n) hh0 hh1 hh2 hh3 cs w0 w1 w2 hf, fun cs w0 w1 w2 hf => sb_eval l dC dI cB cI cJ cZ h0 a K V fz F n (tab_truth F n) hh0 hh1 hh2 hh3 cs w0 w1 w2 hf, fun cs w0 w1 w2 w3 hf => sb_aggregated l dC dI cB cI cJ cZ h0 a K V fz F n (tab_truth F n) hh0 hh1 hh2 hh3 cs w0 w1 w2 w3 hf, fun cs w0 w1 w2 hf => sb_isOneOf l dC dI cB cI cJ cZ h0 a K V fz F n (tab_truth F n) hh0 hh1 hh2 hh3 cs w0 w1 w2 hf⟩
def m_truth (F n : Nat) (cs : RS) (x1 : Int32) : Option (RS × Int32) := (tab_truth F n).1 cs x1
theorem s_truth (l : Launch) (dC : Nat → ClassId) (dI : Nat → Nat → Nat) (cB cI cJ cZ : ClassId) (h0 : Nat) (a : Nat → Nat) (K V : Nat → Nat) (fz : Value) (F n : Nat) (cs : RS) (x1 : Int32) (cs9 : RS) (r9 : Int32) (hf : m_truth F n cs x1 = some (cs9, r9)) : okI l dC dI cB cI cJ cZ h0 a K V fz yX12_truth (wsOf yX12_truth cX12_truth 4 (some .int)) (n + 2) [.ref h0, .int x1] cs cs9 r9 := (sg_truth l dC dI cB cI cJ cZ h0 a K V fz F n).1 cs x1 cs9 r9 hf
def m_eval (F n : Nat) (cs : RS) (x1 : Int32) : Option (RS × Int64) := (tab_truth F n).2.1 cs x1
theorem s_eval (l : Launch) (dC : Nat → ClassId) (dI : Nat → Nat → Nat) (cB cI cJ cZ : ClassId) (h0 : Nat) (a : Nat → Nat) (K V : Nat → Nat) (fz : Value) (F n : Nat) (cs : RS) (x1 : Int32) (cs9 : RS) (r9 : Int64) (hf : m_eval F n cs x1 = some (cs9, r9)) : okL l dC dI cB cI cJ cZ h0 a K V fz yX12_eval (wsOf yX12_eval cX12_eval 8 (some .long)) (n + 2) [.ref h0, .int x1] cs cs9 r9 := (sg_truth l dC dI cB cI cJ cZ h0 a K V fz F n).2.1 cs x1 cs9 r9 hf
def m_aggregated (F n : Nat) (cs : RS) (x1 : Int32) (x2 : Int32) : Option (RS × Int64) := (tab_truth F n).2.2.1 cs x1 x2
theorem s_aggregated (l : Launch) (dC : Nat → ClassId) (dI : Nat → Nat → Nat) (cB cI cJ cZ : ClassId) (h0 : Nat) (a : Nat → Nat) (K V : Nat → Nat) (fz : Value) (F n : Nat) (cs : RS) (x1 : Int32) (x2 : Int32) (cs9 : RS) (r9 : Int64) (hf : m_aggregated F n cs x1 x2 = some (cs9, r9)) : okL l dC dI cB cI cJ cZ h0 a K V fz yX12_aggregated (wsOf yX12_aggregated cX12_aggregated 13 (some .long)) (n + 2) [.ref h0, .int x1, .int x2] cs cs9 r9 := (sg_truth l dC dI cB cI cJ cZ h0 a K V fz F n).2.2.1 cs x1 x2 cs9 r9 hf
def m_isOneOf (F n : Nat) (cs : RS) (x1 : Int32) : Option (RS × Int64) := (tab_truth F n).2.2.2 cs x1
theorem s_isOneOf (l : Launch) (dC : Nat → ClassId) (dI : Nat → Nat → Nat) (cB cI cJ cZ : ClassId) (h0 : Nat) (a : Nat → Nat) (K V : Nat → Nat) (fz : Value) (F n : Nat) (cs : RS) (x1 : Int32) (cs9 : RS) (r9 : Int64) (hf : m_isOneOf F n cs x1 = some (cs9, r9)) : okL l dC dI cB cI cJ cZ h0 a K V fz yX12_isOneOf (wsOf yX12_isOneOf cX12_isOneOf 9 (some .long)) (n + 2) [.ref h0, .int x1] cs cs9 r9 := (sg_truth l dC dI cB cI cJ cZ h0 a K V fz F n).2.2.2 cs x1 cs9 r9 hf
theorem dX12_join_0 : decode cX12_join 0 = .ok (.aload_n 0, 1) := by decide +kernel
theorem dX12_join_1 : decode cX12_join 1 = .ok (.getfield 206, 3) := by decide +kernel
theorem dX12_join_4 : decode cX12_join 4 = .ok (.iload_n 1, 1) := by decide +kernel
theorem dX12_join_5 : decode cX12_join 5 = .ok (.iaload, 1) := by decide +kernel
theorem dX12_join_6 : decode cX12_join 6 = .ok (.istore 4, 2) := by decide +kernel
theorem dX12_join_8 : decode cX12_join 8 = .ok (.aload_n 0, 1) := by decide +kernel
theorem dX12_join_9 : decode cX12_join 9 = .ok (.getfield 206, 3) := by decide +kernel
theorem dX12_join_12 : decode cX12_join 12 = .ok (.iload_n 2, 1) := by decide +kernel
theorem dX12_join_13 : decode cX12_join 13 = .ok (.iaload, 1) := by decide +kernel
theorem dX12_join_14 : decode cX12_join 14 = .ok (.istore 5, 2) := by decide +kernel
theorem dX12_join_16 : decode cX12_join 16 = .ok (.aload_n 0, 1) := by decide +kernel
theorem dX12_join_17 : decode cX12_join 17 = .ok (.iload 4, 2) := by decide +kernel
theorem dX12_join_19 : decode cX12_join 19 = .ok (.iload 5, 2) := by decide +kernel
theorem dX12_join_21 : decode cX12_join 21 = .ok (.iadd, 1) := by decide +kernel
theorem dX12_join_22 : decode cX12_join 22 = .ok (.invokevirtual 662, 3) := by decide +kernel
theorem dX12_join_25 : decode cX12_join 25 = .ok (.istore 6, 2) := by decide +kernel
theorem dX12_join_27 : decode cX12_join 27 = .ok (.iconst 0, 1) := by decide +kernel
theorem dX12_join_28 : decode cX12_join 28 = .ok (.istore 7, 2) := by decide +kernel
theorem dX12_join_30 : decode cX12_join 30 = .ok (.iload 7, 2) := by decide +kernel
theorem dX12_join_32 : decode cX12_join 32 = .ok (.aload_n 0, 1) := by decide +kernel
theorem dX12_join_33 : decode cX12_join 33 = .ok (.getfield 203, 3) := by decide +kernel
theorem dX12_join_36 : decode cX12_join 36 = .ok (.iload_n 1, 1) := by decide +kernel
theorem dX12_join_37 : decode cX12_join 37 = .ok (.iaload, 1) := by decide +kernel
theorem dX12_join_38 : decode cX12_join 38 = .ok (.if_icmp .ge 205, 3) := by decide +kernel
theorem dX12_join_41 : decode cX12_join 41 = .ok (.iconst 0, 1) := by decide +kernel
theorem dX12_join_42 : decode cX12_join 42 = .ok (.istore 8, 2) := by decide +kernel
theorem dX12_join_44 : decode cX12_join 44 = .ok (.iconst 0, 1) := by decide +kernel
theorem dX12_join_45 : decode cX12_join 45 = .ok (.istore 9, 2) := by decide +kernel
theorem dX12_join_47 : decode cX12_join 47 = .ok (.iload 9, 2) := by decide +kernel
theorem dX12_join_49 : decode cX12_join 49 = .ok (.aload_n 0, 1) := by decide +kernel
theorem dX12_join_50 : decode cX12_join 50 = .ok (.getfield 203, 3) := by decide +kernel
theorem dX12_join_53 : decode cX12_join 53 = .ok (.iload_n 2, 1) := by decide +kernel
theorem dX12_join_54 : decode cX12_join 54 = .ok (.iaload, 1) := by decide +kernel
theorem dX12_join_55 : decode cX12_join 55 = .ok (.if_icmp .ge 101, 3) := by decide +kernel
theorem dX12_join_58 : decode cX12_join 58 = .ok (.aload_n 0, 1) := by decide +kernel
theorem dX12_join_59 : decode cX12_join 59 = .ok (.iload 6, 2) := by decide +kernel
theorem dX12_join_61 : decode cX12_join 61 = .ok (.invokevirtual 668, 3) := by decide +kernel
theorem dX12_join_64 : decode cX12_join 64 = .ok (.istore 10, 2) := by decide +kernel
theorem dX12_join_66 : decode cX12_join 66 = .ok (.aload_n 0, 1) := by decide +kernel
theorem dX12_join_67 : decode cX12_join 67 = .ok (.aload_n 0, 1) := by decide +kernel
theorem dX12_join_68 : decode cX12_join 68 = .ok (.iload_n 1, 1) := by decide +kernel
theorem dX12_join_69 : decode cX12_join 69 = .ok (.iload 7, 2) := by decide +kernel
theorem dX12_join_71 : decode cX12_join 71 = .ok (.invokevirtual 653, 3) := by decide +kernel
theorem dX12_join_74 : decode cX12_join 74 = .ok (.iload 10, 2) := by decide +kernel
theorem dX12_join_76 : decode cX12_join 76 = .ok (.iload 4, 2) := by decide +kernel
theorem dX12_join_78 : decode cX12_join 78 = .ok (.invokevirtual 671, 3) := by decide +kernel
theorem dX12_join_81 : decode cX12_join 81 = .ok (.aload_n 0, 1) := by decide +kernel
theorem dX12_join_82 : decode cX12_join 82 = .ok (.aload_n 0, 1) := by decide +kernel
theorem dX12_join_83 : decode cX12_join 83 = .ok (.iload_n 2, 1) := by decide +kernel
theorem dX12_join_84 : decode cX12_join 84 = .ok (.iload 9, 2) := by decide +kernel
theorem dX12_join_86 : decode cX12_join 86 = .ok (.invokevirtual 653, 3) := by decide +kernel
theorem dX12_join_89 : decode cX12_join 89 = .ok (.iload 10, 2) := by decide +kernel
theorem dX12_join_91 : decode cX12_join 91 = .ok (.iload 4, 2) := by decide +kernel
theorem dX12_join_93 : decode cX12_join 93 = .ok (.iadd, 1) := by decide +kernel
theorem dX12_join_94 : decode cX12_join 94 = .ok (.iload 5, 2) := by decide +kernel
theorem dX12_join_96 : decode cX12_join 96 = .ok (.invokevirtual 671, 3) := by decide +kernel
theorem dX12_join_99 : decode cX12_join 99 = .ok (.aload_n 0, 1) := by decide +kernel
theorem dX12_join_100 : decode cX12_join 100 = .ok (.iload 10, 2) := by decide +kernel
theorem dX12_join_102 : decode cX12_join 102 = .ok (.putfield 621, 3) := by decide +kernel
theorem dX12_join_105 : decode cX12_join 105 = .ok (.aload_n 0, 1) := by decide +kernel
theorem dX12_join_106 : decode cX12_join 106 = .ok (.aload_n 0, 1) := by decide +kernel
theorem dX12_join_107 : decode cX12_join 107 = .ok (.getfield 154, 3) := by decide +kernel
theorem dX12_join_110 : decode cX12_join 110 = .ok (.iload_n 3, 1) := by decide +kernel
theorem dX12_join_111 : decode cX12_join 111 = .ok (.iaload, 1) := by decide +kernel
theorem dX12_join_112 : decode cX12_join 112 = .ok (.invokevirtual 628, 3) := by decide +kernel
theorem dX12_join_115 : decode cX12_join 115 = .ok (.iconst 1, 1) := by decide +kernel
theorem dX12_join_116 : decode cX12_join 116 = .ok (.if_icmp .ne 9, 3) := by decide +kernel
theorem dX12_join_119 : decode cX12_join 119 = .ok (.iconst 1, 1) := by decide +kernel
theorem dX12_join_120 : decode cX12_join 120 = .ok (.istore 8, 2) := by decide +kernel
theorem dX12_join_122 : decode cX12_join 122 = .ok (.goto 28, 3) := by decide +kernel
theorem dX12_join_125 : decode cX12_join 125 = .ok (.aload_n 0, 1) := by decide +kernel
theorem dX12_join_126 : decode cX12_join 126 = .ok (.dup, 1) := by decide +kernel
theorem dX12_join_127 : decode cX12_join 127 = .ok (.getfield 593, 3) := by decide +kernel
theorem dX12_join_130 : decode cX12_join 130 = .ok (.iload 4, 2) := by decide +kernel
theorem dX12_join_132 : decode cX12_join 132 = .ok (.iload 5, 2) := by decide +kernel
theorem dX12_join_134 : decode cX12_join 134 = .ok (.iadd, 1) := by decide +kernel
theorem dX12_join_135 : decode cX12_join 135 = .ok (.isub, 1) := by decide +kernel
theorem dX12_join_136 : decode cX12_join 136 = .ok (.putfield 593, 3) := by decide +kernel
theorem dX12_join_139 : decode cX12_join 139 = .ok (.aload_n 0, 1) := by decide +kernel
theorem dX12_join_140 : decode cX12_join 140 = .ok (.getfield 203, 3) := by decide +kernel
theorem dX12_join_143 : decode cX12_join 143 = .ok (.iload 6, 2) := by decide +kernel
theorem dX12_join_145 : decode cX12_join 145 = .ok (.dup2, 1) := by decide +kernel
theorem dX12_join_146 : decode cX12_join 146 = .ok (.iaload, 1) := by decide +kernel
theorem dX12_join_147 : decode cX12_join 147 = .ok (.iconst 1, 1) := by decide +kernel
theorem dX12_join_148 : decode cX12_join 148 = .ok (.isub, 1) := by decide +kernel
theorem dX12_join_149 : decode cX12_join 149 = .ok (.iastore, 1) := by decide +kernel
theorem dX12_join_150 : decode cX12_join 150 = .ok (.iinc 9 1, 3) := by decide +kernel
theorem dX12_join_153 : decode cX12_join 153 = .ok (.goto (-106), 3) := by decide +kernel
theorem dX12_join_156 : decode cX12_join 156 = .ok (.iload 8, 2) := by decide +kernel
theorem dX12_join_158 : decode cX12_join 158 = .ok (.ifCond .ne 79, 3) := by decide +kernel
theorem dX12_join_161 : decode cX12_join 161 = .ok (.aload_n 0, 1) := by decide +kernel
theorem dX12_join_162 : decode cX12_join 162 = .ok (.getfield 148, 3) := by decide +kernel
theorem dX12_join_165 : decode cX12_join 165 = .ok (.iload_n 3, 1) := by decide +kernel
theorem dX12_join_166 : decode cX12_join 166 = .ok (.baload, 1) := by decide +kernel
theorem dX12_join_167 : decode cX12_join 167 = .ok (.ifCond .eq 70, 3) := by decide +kernel
theorem dX12_join_170 : decode cX12_join 170 = .ok (.aload_n 0, 1) := by decide +kernel
theorem dX12_join_171 : decode cX12_join 171 = .ok (.iload 6, 2) := by decide +kernel
theorem dX12_join_173 : decode cX12_join 173 = .ok (.invokevirtual 668, 3) := by decide +kernel
theorem dX12_join_176 : decode cX12_join 176 = .ok (.istore 9, 2) := by decide +kernel
theorem dX12_join_178 : decode cX12_join 178 = .ok (.aload_n 0, 1) := by decide +kernel
theorem dX12_join_179 : decode cX12_join 179 = .ok (.aload_n 0, 1) := by decide +kernel
theorem dX12_join_180 : decode cX12_join 180 = .ok (.iload_n 1, 1) := by decide +kernel
theorem dX12_join_181 : decode cX12_join 181 = .ok (.iload 7, 2) := by decide +kernel
theorem dX12_join_183 : decode cX12_join 183 = .ok (.invokevirtual 653, 3) := by decide +kernel
theorem dX12_join_186 : decode cX12_join 186 = .ok (.iload 9, 2) := by decide +kernel
theorem dX12_join_188 : decode cX12_join 188 = .ok (.iload 4, 2) := by decide +kernel
theorem dX12_join_190 : decode cX12_join 190 = .ok (.invokevirtual 671, 3) := by decide +kernel
theorem dX12_join_193 : decode cX12_join 193 = .ok (.iconst 0, 1) := by decide +kernel
theorem dX12_join_194 : decode cX12_join 194 = .ok (.istore 10, 2) := by decide +kernel
theorem dX12_join_196 : decode cX12_join 196 = .ok (.iload 10, 2) := by decide +kernel
theorem dX12_join_198 : decode cX12_join 198 = .ok (.iload 5, 2) := by decide +kernel
theorem dX12_join_200 : decode cX12_join 200 = .ok (.if_icmp .ge 37, 3) := by decide +kernel
theorem dX12_join_203 : decode cX12_join 203 = .ok (.aload_n 0, 1) := by decide +kernel
theorem dX12_join_204 : decode cX12_join 204 = .ok (.getfield 194, 3) := by decide +kernel
theorem dX12_join_207 : decode cX12_join 207 = .ok (.iload 9, 2) := by decide +kernel
theorem dX12_join_209 : decode cX12_join 209 = .ok (.iload 4, 2) := by decide +kernel
theorem dX12_join_211 : decode cX12_join 211 = .ok (.iadd, 1) := by decide +kernel
theorem dX12_join_212 : decode cX12_join 212 = .ok (.iload 10, 2) := by decide +kernel
theorem dX12_join_214 : decode cX12_join 214 = .ok (.iadd, 1) := by decide +kernel
theorem dX12_join_215 : decode cX12_join 215 = .ok (.lconst 0, 1) := by decide +kernel
theorem dX12_join_216 : decode cX12_join 216 = .ok (.lastore, 1) := by decide +kernel
theorem dX12_join_217 : decode cX12_join 217 = .ok (.aload_n 0, 1) := by decide +kernel
theorem dX12_join_218 : decode cX12_join 218 = .ok (.getfield 197, 3) := by decide +kernel
theorem dX12_join_221 : decode cX12_join 221 = .ok (.iload 9, 2) := by decide +kernel
theorem dX12_join_223 : decode cX12_join 223 = .ok (.iload 4, 2) := by decide +kernel
theorem dX12_join_225 : decode cX12_join 225 = .ok (.iadd, 1) := by decide +kernel
theorem dX12_join_226 : decode cX12_join 226 = .ok (.iload 10, 2) := by decide +kernel
theorem dX12_join_228 : decode cX12_join 228 = .ok (.iadd, 1) := by decide +kernel
theorem dX12_join_229 : decode cX12_join 229 = .ok (.iconst 1, 1) := by decide +kernel
theorem dX12_join_230 : decode cX12_join 230 = .ok (.bastore, 1) := by decide +kernel
theorem dX12_join_231 : decode cX12_join 231 = .ok (.iinc 10 1, 3) := by decide +kernel
theorem dX12_join_234 : decode cX12_join 234 = .ok (.goto (-38), 3) := by decide +kernel
theorem dX12_join_237 : decode cX12_join 237 = .ok (.iinc 7 1, 3) := by decide +kernel
theorem dX12_join_240 : decode cX12_join 240 = .ok (.goto (-210), 3) := by decide +kernel
theorem dX12_join_243 : decode cX12_join 243 = .ok (.iload 6, 2) := by decide +kernel
theorem dX12_join_245 : decode cX12_join 245 = .ok (.ireturn, 1) := by decide +kernel
def m_join_b237 (F : Nat) (rc30 : RS → Int32 → Int32 → Int32 → Int32 → Int32 → Int32 → Int32 → Option (RS × Int32)) (cs1 : RS) (u1 : Int32) (u2 : Int32) (u3 : Int32) (u4 : Int32) (u5 : Int32) (u6 : Int32) (u7 : Int32) : Option (RS × Int32) := rc30 cs1 u1 u2 u3 u4 u5 u6 (u7 + 1)
def m_join_L196 (F : Nat) (rc30 : RS → Int32 → Int32 → Int32 → Int32 → Int32 → Int32 → Int32 → Option (RS × Int32)) : Nat → RS → Int32 → Int32 → Int32 → Int32 → Int32 → Int32 → Int32 → Int32 → Int32 → Option (RS × Int32)
  | 0, _, _, _, _, _, _, _, _, _, _ => none
  | lf_196 + 1, cs1, u1, u2, u3, u4, u5, u6, u7, u9, u10 => if u5 ≤ u10 then (m_join_b237 F rc30 cs1 u1 u2 u3 u4 u5 u6 u7) else (Option.bind (wrL cs1 85 400000 ((u9 + u4) + u10) 0) fun cs_2 => Option.bind (wrI cs_2 86 400000 ((u9 + u4) + u10) (vp_nar .boolean 1)) fun cs_3 => (m_join_L196 F rc30 lf_196) cs_3 u1 u2 u3 u4 u5 u6 u7 u9 (u10 + 1))
def m_join_b150 (F : Nat) (rc30 : RS → Int32 → Int32 → Int32 → Int32 → Int32 → Int32 → Int32 → Option (RS × Int32)) (rc47 : RS → Int32 → Int32 → Int32 → Int32 → Int32 → Int32 → Int32 → Int32 → Int32 → Option (RS × Int32)) (cs1 : RS) (u1 : Int32) (u2 : Int32) (u3 : Int32) (u4 : Int32) (u5 : Int32) (u6 : Int32) (u7 : Int32) (u8 : Int32) (u9 : Int32) : Option (RS × Int32) := rc47 cs1 u1 u2 u3 u4 u5 u6 u7 u8 (u9 + 1)
def m_join_L47 (F : Nat) (rc30 : RS → Int32 → Int32 → Int32 → Int32 → Int32 → Int32 → Int32 → Option (RS × Int32)) : Nat → RS → Int32 → Int32 → Int32 → Int32 → Int32 → Int32 → Int32 → Int32 → Int32 → Option (RS × Int32)
  | 0, _, _, _, _, _, _, _, _, _, _ => none
  | lf_47 + 1, cs1, u1, u2, u3, u4, u5, u6, u7, u8, u9 => Option.bind (rdI (cs1.2.2.1 89) 400 u2) fun v_4 => if v_4 ≤ u9 then (if u8 = 0 then (Option.bind (rdI (cs1.2.2.1 56) 180 u3) fun v_7 => if v_7 = 0 then (m_join_b237 F rc30 cs1 u1 u2 u3 u4 u5 u6 u7) else (Option.bind (m_newRow F cs1 u6) fun z_9 => Option.bind (m_rowAt F z_9.1 u1 u7) fun v_10 => Option.bind (m_copy F z_9.1 v_10 z_9.2 u4) fun cs_11 => m_join_L196 F rc30 F cs_11 u1 u2 u3 u4 u5 u6 u7 z_9.2 0)) else (m_join_b237 F rc30 cs1 u1 u2 u3 u4 u5 u6 u7)) else (Option.bind (m_newRow F cs1 u6) fun z_12 => Option.bind (m_rowAt F z_12.1 u1 u7) fun v_13 => Option.bind (m_copy F z_12.1 v_13 z_12.2 u4) fun cs_14 => Option.bind (m_rowAt F cs_14 u2 u9) fun v_15 => Option.bind (m_copy F cs_14 v_15 (z_12.2 + u4) u5) fun cs_16 => Option.bind (rdI ((setF cs_16 93 z_12.2).2.2.1 58) 180 u3) fun v_17 => Option.bind (m_truth F 300 (setF cs_16 93 z_12.2) v_17) fun z_18 => if z_18.2 = 1 then (m_join_b150 F rc30 (m_join_L47 F rc30 lf_47) z_18.1 u1 u2 u3 u4 u5 u6 u7 1 u9) else (Option.bind (rdI ((setF z_18.1 87 ((z_18.1.1 87) - (u4 + u5))).2.2.1 89) 400 u6) fun v_20 => Option.bind (wrI (setF z_18.1 87 ((z_18.1.1 87) - (u4 + u5))) 89 400 u6 (v_20 - 1)) fun cs_21 => m_join_b150 F rc30 (m_join_L47 F rc30 lf_47) cs_21 u1 u2 u3 u4 u5 u6 u7 u8 u9))
def m_join_L30 (F : Nat) : Nat → RS → Int32 → Int32 → Int32 → Int32 → Int32 → Int32 → Int32 → Option (RS × Int32)
  | 0, _, _, _, _, _, _, _, _ => none
  | lf_30 + 1, cs1, u1, u2, u3, u4, u5, u6, u7 => Option.bind (rdI (cs1.2.2.1 89) 400 u1) fun v_22 => if v_22 ≤ u7 then (some (cs1, u6)) else (m_join_L47 F (m_join_L30 F lf_30) F cs1 u1 u2 u3 u4 u5 u6 u7 0 0)
def m_join (F : Nat) (cs : RS) (x1 : Int32) (x2 : Int32) (x3 : Int32) : Option (RS × Int32) := Option.bind (rdI (cs.2.2.1 90) 400 x1) fun v_24 => Option.bind (rdI (cs.2.2.1 90) 400 x2) fun v_25 => Option.bind (m_relation F cs (v_24 + v_25)) fun z_26 => m_join_L30 F F z_26.1 x1 x2 x3 v_24 v_25 z_26.2 0
set_option maxHeartbeats 4000000 in
set_option maxRecDepth 100000 in
theorem s_join (l : Launch) (dC : Nat → ClassId) (dI : Nat → Nat → Nat) (cB cI cJ cZ : ClassId) (h0 : Nat) (a : Nat → Nat) (K V : Nat → Nat) (fz : Value) (F : Nat) (cs : RS) (x1 : Int32) (x2 : Int32) (x3 : Int32) (cs9 : RS) (r9 : Int32) (hf : m_join F cs x1 x2 x3 = some (cs9, r9)) : okI l dC dI cB cI cJ cZ h0 a K V fz yX12_join (wsOf yX12_join cX12_join 11 (some .int)) (303) [.ref h0, .int x1, .int x2, .int x3] cs cs9 r9 := by
  intro sz
  refine Met.ofW (cc := cX12_join) (maxL := 11) (ret := (some .int)) (by decide) rfl ?_
  intro p e s m args below meth c s₁ B hml hv
  obtain ⟨rfl, hsz, hP, hK, hD0, hZ⟩ := hv
  have hx := B.exec
  have hb := B.bytes
  have hr := B.returns
  have hts := atoms_spec (ws := (wsOf yX12_join cX12_join 11 (some .int))) B.pre
  have hown : s.vm.findClass RX12 = some m.cls := findClass_of_methodNamed B.named
  have hlocks := B.notSynchronized
  subst hsz
  have hD := hD0.self (sz := s.heap.size)
  generalize hAe : va_A (mW cB cI cJ cZ h0 a cs) s.heap.size = A at hD hZ ⊢
  have hA : ∀ q : Nat, s.heap.size ≤ q → A q := fun q h => by rw [← hAe]; exact Or.inr h
  have hS : va_S A s.heap s.heap [] := va_S.rf
  have hl := lv_entry ([.ref h0, .int x1, .int x2, .int x3]) (n := 11) (Nat.le_of_ble_eq_true rfl)
  rw [lg_entry_eq]
  generalize (lg_sl ([.ref h0, .int x1, .int x2, .int x3]) ++ List.replicate (11 - (lg_sl ([.ref h0, .int x1, .int x2, .int x3])).length) Slot.unset).toArray = ls at hl ⊢
  have hl : lv_has ls 11 [(0, .ref h0), (1, .int x1), (2, .int x2), (3, .int x3)] := hl
  have L_30 : ∀ (lf_30 : Nat), ∀ (cs1 : RS) (u1 : Int32) (u2 : Int32) (u3 : Int32) (u4 : Int32) (u5 : Int32) (u6 : Int32) (u7 : Int32), m_join_L30 F lf_30 cs1 u1 u2 u3 u4 u5 u6 u7 = some (cs9, r9) → ∀ (H : Heap) (locs : List Loc) (ls : Array Slot), va_P (dC, dI) vwCl (mW cB cI cJ cZ h0 a cs1) H → va_D A (mW cB cI cJ cZ h0 a cs1) → va_S A s.heap H locs → lv_has ls 11 [(0, .ref h0), (1, .int u1), (2, .int u2), (3, .int u3), (4, .int u4), (5, .int u5), (6, .int u6), (7, .int u7)] → W p l e (headSpec (wsOf yX12_join cX12_join 11 (some .int)) ({ frames := 303, cells := 0, slots := 0, locals := 60 * (303) } : Room)).room s m ([.ref h0, .int x1, .int x2, .int x3] : List Value).toArray below meth c H locs 0 0 (MQ below (va_Qi (fun (x : Int32) (_ : Unit) => x = r9) (fun _ t_ => va_P (dC, dI) vwCl (mW cB cI cJ cZ h0 a cs9) t_.heap ∧ va_D A (mW cB cI cJ cZ h0 a cs9)) A) ([.ref h0, .int x1, .int x2, .int x3] : List Value).toArray s 0 0 A) (F0 m 30 ls []) := by
    intro lf_30
    induction lf_30 with
    | zero => intro cs1 u1 u2 u3 u4 u5 u6 u7 h; cases (show (none : Option (RS × Int32)) = _ from h)
    | succ lf_30 ih_30 =>
      have B_237 : ∀ (cs1 : RS) (u1 : Int32) (u2 : Int32) (u3 : Int32) (u4 : Int32) (u5 : Int32) (u6 : Int32) (u7 : Int32), m_join_b237 F (m_join_L30 F lf_30) cs1 u1 u2 u3 u4 u5 u6 u7 = some (cs9, r9) → ∀ (H : Heap) (locs : List Loc) (ls : Array Slot), va_P (dC, dI) vwCl (mW cB cI cJ cZ h0 a cs1) H → va_D A (mW cB cI cJ cZ h0 a cs1) → va_S A s.heap H locs → lv_has ls 11 [(0, .ref h0), (1, .int u1), (2, .int u2), (3, .int u3), (4, .int u4), (5, .int u5), (6, .int u6), (7, .int u7)] → W p l e (headSpec (wsOf yX12_join cX12_join 11 (some .int)) ({ frames := 303, cells := 0, slots := 0, locals := 60 * (303) } : Room)).room s m ([.ref h0, .int x1, .int x2, .int x3] : List Value).toArray below meth c H locs 0 0 (MQ below (va_Qi (fun (x : Int32) (_ : Unit) => x = r9) (fun _ t_ => va_P (dC, dI) vwCl (mW cB cI cJ cZ h0 a cs9) t_.heap ∧ va_D A (mW cB cI cJ cZ h0 a cs9)) A) ([.ref h0, .int x1, .int x2, .int x3] : List Value).toArray s 0 0 A) (F0 m 237 ls []) := by
        intro cs1 u1 u2 u3 u4 u5 u6 u7 h H locs ls hP hD hS hl
        unfold m_join_b237 at h
        refine lv_iinc (v := u7 + 1) (lv' := [(7, .int (u7 + 1)), (0, .ref h0), (1, .int u1), (2, .int u2), (3, .int u3), (4, .int u4), (5, .int u5), (6, .int u6)]) hx hb dX12_join_237 hl (k := 7) rfl rfl (by decide) rfl (fun ls hl => ?_)
        refine lv_goto (tgt := 30) hx hb dX12_join_240 (by decide) ?_
        exact ih_30 cs1 u1 u2 u3 u4 u5 u6 (u7 + 1) h _ _ _ hP hD hS (lv_sub hl [1, 2, 3, 4, 5, 6, 7, 0] rfl)
      have L_196 : ∀ (lf_196 : Nat), ∀ (cs1 : RS) (u1 : Int32) (u2 : Int32) (u3 : Int32) (u4 : Int32) (u5 : Int32) (u6 : Int32) (u7 : Int32) (u9 : Int32) (u10 : Int32), m_join_L196 F (m_join_L30 F lf_30) lf_196 cs1 u1 u2 u3 u4 u5 u6 u7 u9 u10 = some (cs9, r9) → ∀ (H : Heap) (locs : List Loc) (ls : Array Slot), va_P (dC, dI) vwCl (mW cB cI cJ cZ h0 a cs1) H → va_D A (mW cB cI cJ cZ h0 a cs1) → va_S A s.heap H locs → lv_has ls 11 [(0, .ref h0), (1, .int u1), (2, .int u2), (3, .int u3), (4, .int u4), (5, .int u5), (6, .int u6), (7, .int u7), (9, .int u9), (10, .int u10)] → W p l e (headSpec (wsOf yX12_join cX12_join 11 (some .int)) ({ frames := 303, cells := 0, slots := 0, locals := 60 * (303) } : Room)).room s m ([.ref h0, .int x1, .int x2, .int x3] : List Value).toArray below meth c H locs 0 0 (MQ below (va_Qi (fun (x : Int32) (_ : Unit) => x = r9) (fun _ t_ => va_P (dC, dI) vwCl (mW cB cI cJ cZ h0 a cs9) t_.heap ∧ va_D A (mW cB cI cJ cZ h0 a cs9)) A) ([.ref h0, .int x1, .int x2, .int x3] : List Value).toArray s 0 0 A) (F0 m 196 ls []) := by
        intro lf_196
        induction lf_196 with
        | zero => intro cs1 u1 u2 u3 u4 u5 u6 u7 u9 u10 h; cases (show (none : Option (RS × Int32)) = _ from h)
        | succ lf_196 ih_196 =>
          intro cs1 u1 u2 u3 u4 u5 u6 u7 u9 u10 h H locs ls hP hD hS hl
          rw [m_join_L196] at h
          refine lv_iload hx hb dX12_join_196 (lv_at hl 9 rfl) ?_
          refine lv_iload hx hb dX12_join_198 (lv_at hl 5 rfl) ?_
          refine lv_icmp_ge (tgt := 237) hx hb dX12_join_200 (by decide) (fun c_1 => ?_) (fun c_1 => ?_)
          · skip
            replace h := (if_pos c_1).symm.trans h
            exact B_237 cs1 u1 u2 u3 u4 u5 u6 u7 h _ _ _ hP hD hS (lv_sub hl [0, 1, 2, 3, 4, 5, 6, 7] rfl)
          · skip
            replace h := (if_neg c_1).symm.trans h
            refine lv_aload_n hx hb dX12_join_203 rfl (lv_at hl 0 rfl) ?_
            refine fg_85 hx hb hts hown hK hP dX12_join_204 ?_
            refine lv_iload hx hb dX12_join_207 (lv_at hl 8 rfl) ?_
            refine lv_iload hx hb dX12_join_209 (lv_at hl 4 rfl) ?_
            refine lv_iadd hx hb dX12_join_211 ?_
            refine lv_iload hx hb dX12_join_212 (lv_at hl 9 rfl) ?_
            refine lv_iadd hx hb dX12_join_214 ?_
            refine lv_lconst (v := 0) hx hb dX12_join_215 (by decide) ?_
            obtain ⟨cs_2, hv_2, h⟩ := ob h
            refine ap_85 hx hb hK hP hD hS hv_2 dX12_join_216 (fun H locs hP hD hS => ?_)
            refine lv_aload_n hx hb dX12_join_217 rfl (lv_at hl 0 rfl) ?_
            refine fg_86 hx hb hts hown hK hP dX12_join_218 ?_
            refine lv_iload hx hb dX12_join_221 (lv_at hl 8 rfl) ?_
            refine lv_iload hx hb dX12_join_223 (lv_at hl 4 rfl) ?_
            refine lv_iadd hx hb dX12_join_225 ?_
            refine lv_iload hx hb dX12_join_226 (lv_at hl 9 rfl) ?_
            refine lv_iadd hx hb dX12_join_228 ?_
            refine lv_iconst (v := 1) hx hb dX12_join_229 (by decide) ?_
            obtain ⟨cs_3, hv_3, h⟩ := ob h
            refine ap_86 hx hb hK hP hD hS hv_3 dX12_join_230 (fun H locs hP hD hS => ?_)
            refine lv_iinc (v := u10 + 1) (lv' := [(10, .int (u10 + 1)), (0, .ref h0), (1, .int u1), (2, .int u2), (3, .int u3), (4, .int u4), (5, .int u5), (6, .int u6), (7, .int u7), (9, .int u9)]) hx hb dX12_join_231 hl (k := 9) rfl rfl (by decide) rfl (fun ls hl => ?_)
            refine lv_goto (tgt := 196) hx hb dX12_join_234 (by decide) ?_
            exact ih_196 cs_3 u1 u2 u3 u4 u5 u6 u7 u9 (u10 + 1) h _ _ _ hP hD hS (lv_sub hl [1, 2, 3, 4, 5, 6, 7, 8, 9, 0] rfl)
      have L_47 : ∀ (lf_47 : Nat), ∀ (cs1 : RS) (u1 : Int32) (u2 : Int32) (u3 : Int32) (u4 : Int32) (u5 : Int32) (u6 : Int32) (u7 : Int32) (u8 : Int32) (u9 : Int32), m_join_L47 F (m_join_L30 F lf_30) lf_47 cs1 u1 u2 u3 u4 u5 u6 u7 u8 u9 = some (cs9, r9) → ∀ (H : Heap) (locs : List Loc) (ls : Array Slot), va_P (dC, dI) vwCl (mW cB cI cJ cZ h0 a cs1) H → va_D A (mW cB cI cJ cZ h0 a cs1) → va_S A s.heap H locs → lv_has ls 11 [(0, .ref h0), (1, .int u1), (2, .int u2), (3, .int u3), (4, .int u4), (5, .int u5), (6, .int u6), (7, .int u7), (8, .int u8), (9, .int u9)] → W p l e (headSpec (wsOf yX12_join cX12_join 11 (some .int)) ({ frames := 303, cells := 0, slots := 0, locals := 60 * (303) } : Room)).room s m ([.ref h0, .int x1, .int x2, .int x3] : List Value).toArray below meth c H locs 0 0 (MQ below (va_Qi (fun (x : Int32) (_ : Unit) => x = r9) (fun _ t_ => va_P (dC, dI) vwCl (mW cB cI cJ cZ h0 a cs9) t_.heap ∧ va_D A (mW cB cI cJ cZ h0 a cs9)) A) ([.ref h0, .int x1, .int x2, .int x3] : List Value).toArray s 0 0 A) (F0 m 47 ls []) := by
        intro lf_47
        induction lf_47 with
        | zero => intro cs1 u1 u2 u3 u4 u5 u6 u7 u8 u9 h; cases (show (none : Option (RS × Int32)) = _ from h)
        | succ lf_47 ih_47 =>
          have B_150 : ∀ (cs1 : RS) (u1 : Int32) (u2 : Int32) (u3 : Int32) (u4 : Int32) (u5 : Int32) (u6 : Int32) (u7 : Int32) (u8 : Int32) (u9 : Int32), m_join_b150 F (m_join_L30 F lf_30) (m_join_L47 F (m_join_L30 F lf_30) lf_47) cs1 u1 u2 u3 u4 u5 u6 u7 u8 u9 = some (cs9, r9) → ∀ (H : Heap) (locs : List Loc) (ls : Array Slot), va_P (dC, dI) vwCl (mW cB cI cJ cZ h0 a cs1) H → va_D A (mW cB cI cJ cZ h0 a cs1) → va_S A s.heap H locs → lv_has ls 11 [(0, .ref h0), (1, .int u1), (2, .int u2), (3, .int u3), (4, .int u4), (5, .int u5), (6, .int u6), (7, .int u7), (8, .int u8), (9, .int u9)] → W p l e (headSpec (wsOf yX12_join cX12_join 11 (some .int)) ({ frames := 303, cells := 0, slots := 0, locals := 60 * (303) } : Room)).room s m ([.ref h0, .int x1, .int x2, .int x3] : List Value).toArray below meth c H locs 0 0 (MQ below (va_Qi (fun (x : Int32) (_ : Unit) => x = r9) (fun _ t_ => va_P (dC, dI) vwCl (mW cB cI cJ cZ h0 a cs9) t_.heap ∧ va_D A (mW cB cI cJ cZ h0 a cs9)) A) ([.ref h0, .int x1, .int x2, .int x3] : List Value).toArray s 0 0 A) (F0 m 150 ls []) := by
            intro cs1 u1 u2 u3 u4 u5 u6 u7 u8 u9 h H locs ls hP hD hS hl
            unfold m_join_b150 at h
            refine lv_iinc (v := u9 + 1) (lv' := [(9, .int (u9 + 1)), (0, .ref h0), (1, .int u1), (2, .int u2), (3, .int u3), (4, .int u4), (5, .int u5), (6, .int u6), (7, .int u7), (8, .int u8)]) hx hb dX12_join_150 hl (k := 9) rfl rfl (by decide) rfl (fun ls hl => ?_)
            refine lv_goto (tgt := 47) hx hb dX12_join_153 (by decide) ?_
            exact ih_47 cs1 u1 u2 u3 u4 u5 u6 u7 u8 (u9 + 1) h _ _ _ hP hD hS (lv_sub hl [1, 2, 3, 4, 5, 6, 7, 8, 9, 0] rfl)
          intro cs1 u1 u2 u3 u4 u5 u6 u7 u8 u9 h H locs ls hP hD hS hl
          rw [m_join_L47] at h
          refine lv_iload hx hb dX12_join_47 (lv_at hl 9 rfl) ?_
          refine lv_aload_n hx hb dX12_join_49 rfl (lv_at hl 0 rfl) ?_
          refine fg_89 hx hb hts hown hK hP dX12_join_50 ?_
          refine lv_iload_n hx hb dX12_join_53 rfl (lv_at hl 2 rfl) ?_
          obtain ⟨v_4, hv_4, h⟩ := ob h
          refine ag_89 hx hb hK hP hv_4 dX12_join_54 ?_
          refine lv_icmp_ge (tgt := 156) hx hb dX12_join_55 (by decide) (fun c_5 => ?_) (fun c_5 => ?_)
          · skip
            replace h := (if_pos c_5).symm.trans h
            refine lv_iload hx hb dX12_join_156 (lv_at hl 8 rfl) ?_
            refine lv_if_ne (tgt := 237) hx hb dX12_join_158 (by decide) (fun c_6 => ?_) (fun c_6 => ?_)
            · skip
              replace h := (if_neg c_6).symm.trans h
              exact B_237 cs1 u1 u2 u3 u4 u5 u6 u7 h _ _ _ hP hD hS (lv_sub hl [0, 1, 2, 3, 4, 5, 6, 7] rfl)
            · skip
              replace h := (if_pos c_6).symm.trans h
              refine lv_aload_n hx hb dX12_join_161 rfl (lv_at hl 0 rfl) ?_
              refine fg_56 hx hb hts hown hK hP dX12_join_162 ?_
              refine lv_iload_n hx hb dX12_join_165 rfl (lv_at hl 3 rfl) ?_
              obtain ⟨v_7, hv_7, h⟩ := ob h
              refine ag_56 hx hb hK hP hv_7 dX12_join_166 ?_
              refine lv_if_eq (tgt := 237) hx hb dX12_join_167 (by decide) (fun c_8 => ?_) (fun c_8 => ?_)
              · skip
                replace h := (if_pos c_8).symm.trans h
                exact B_237 cs1 u1 u2 u3 u4 u5 u6 u7 h _ _ _ hP hD hS (lv_sub hl [0, 1, 2, 3, 4, 5, 6, 7] rfl)
              · skip
                replace h := (if_neg c_8).symm.trans h
                refine lv_aload_n hx hb dX12_join_170 rfl (lv_at hl 0 rfl) ?_
                refine lv_iload hx hb dX12_join_171 (lv_at hl 6 rfl) ?_
                obtain ⟨z_9, hv_9, h⟩ := ob h
                refine calI (As := [.int u6]) hx hb hml hts hown hK hP hD hS hA hZ (s_newRow l dC dI cB cI cJ cZ h0 a K V fz F cs1 u6 z_9.1 z_9.2 hv_9) (cw_newRow hts (fr := 0) (Nat.le_of_ble_eq_true rfl) (Nat.le_of_ble_eq_true rfl)) rfl hl.1 (Nat.le_of_ble_eq_true rfl) ⟨Nat.zero_le _, Nat.zero_le _⟩ dX12_join_173 (fun H locs hP hD hS => ?_)
                refine lv_istore (lv' := [(9, .int z_9.2), (0, .ref h0), (1, .int u1), (2, .int u2), (3, .int u3), (4, .int u4), (5, .int u5), (6, .int u6), (7, .int u7), (8, .int u8)]) hx hb dX12_join_176 hl (by decide) rfl (fun ls hl => ?_)
                refine lv_aload_n hx hb dX12_join_178 rfl (lv_at hl 1 rfl) ?_
                refine lv_aload_n hx hb dX12_join_179 rfl (lv_at hl 1 rfl) ?_
                refine lv_iload_n hx hb dX12_join_180 rfl (lv_at hl 2 rfl) ?_
                refine lv_iload hx hb dX12_join_181 (lv_at hl 8 rfl) ?_
                obtain ⟨v_10, hv_10, h⟩ := ob h
                refine calI (As := [.int u1, .int u7]) hx hb hml hts hown hK hP hD hS hA hZ (s_rowAt l dC dI cB cI cJ cZ h0 a K V fz F z_9.1 u1 u7 v_10 hv_10) (cw_rowAt hts (fr := 0) (Nat.le_of_ble_eq_true rfl) (Nat.le_of_ble_eq_true rfl)) rfl hl.1 (Nat.le_of_ble_eq_true rfl) ⟨Nat.zero_le _, Nat.zero_le _⟩ dX12_join_183 (fun H locs hP hD hS => ?_)
                refine lv_iload hx hb dX12_join_186 (lv_at hl 0 rfl) ?_
                refine lv_iload hx hb dX12_join_188 (lv_at hl 5 rfl) ?_
                obtain ⟨cs_11, hv_11, h⟩ := ob h
                refine calV (As := [.int v_10, .int z_9.2, .int u4]) hx hb hml hts hown hK hP hD hS hA hZ (s_copy l dC dI cB cI cJ cZ h0 a K V fz F z_9.1 v_10 z_9.2 u4 cs_11 hv_11) (cw_copy hts (fr := 0) (Nat.le_of_ble_eq_true rfl) (Nat.le_of_ble_eq_true rfl)) rfl hl.1 (Nat.le_of_ble_eq_true rfl) ⟨Nat.zero_le _, Nat.zero_le _⟩ dX12_join_190 (fun H locs hP hD hS => ?_)
                refine lv_iconst (v := 0) hx hb dX12_join_193 (by decide) ?_
                refine lv_istore (lv' := [(10, .int 0), (9, .int z_9.2), (0, .ref h0), (1, .int u1), (2, .int u2), (3, .int u3), (4, .int u4), (5, .int u5), (6, .int u6), (7, .int u7), (8, .int u8)]) hx hb dX12_join_194 hl (by decide) rfl (fun ls hl => ?_)
                exact L_196 F cs_11 u1 u2 u3 u4 u5 u6 u7 z_9.2 0 h _ _ _ hP hD hS (lv_sub hl [2, 3, 4, 5, 6, 7, 8, 9, 1, 0] rfl)
          · skip
            replace h := (if_neg c_5).symm.trans h
            refine lv_aload_n hx hb dX12_join_58 rfl (lv_at hl 0 rfl) ?_
            refine lv_iload hx hb dX12_join_59 (lv_at hl 6 rfl) ?_
            obtain ⟨z_12, hv_12, h⟩ := ob h
            refine calI (As := [.int u6]) hx hb hml hts hown hK hP hD hS hA hZ (s_newRow l dC dI cB cI cJ cZ h0 a K V fz F cs1 u6 z_12.1 z_12.2 hv_12) (cw_newRow hts (fr := 0) (Nat.le_of_ble_eq_true rfl) (Nat.le_of_ble_eq_true rfl)) rfl hl.1 (Nat.le_of_ble_eq_true rfl) ⟨Nat.zero_le _, Nat.zero_le _⟩ dX12_join_61 (fun H locs hP hD hS => ?_)
            refine lv_istore (lv' := [(10, .int z_12.2), (0, .ref h0), (1, .int u1), (2, .int u2), (3, .int u3), (4, .int u4), (5, .int u5), (6, .int u6), (7, .int u7), (8, .int u8), (9, .int u9)]) hx hb dX12_join_64 hl (by decide) rfl (fun ls hl => ?_)
            refine lv_aload_n hx hb dX12_join_66 rfl (lv_at hl 1 rfl) ?_
            refine lv_aload_n hx hb dX12_join_67 rfl (lv_at hl 1 rfl) ?_
            refine lv_iload_n hx hb dX12_join_68 rfl (lv_at hl 2 rfl) ?_
            refine lv_iload hx hb dX12_join_69 (lv_at hl 8 rfl) ?_
            obtain ⟨v_13, hv_13, h⟩ := ob h
            refine calI (As := [.int u1, .int u7]) hx hb hml hts hown hK hP hD hS hA hZ (s_rowAt l dC dI cB cI cJ cZ h0 a K V fz F z_12.1 u1 u7 v_13 hv_13) (cw_rowAt hts (fr := 0) (Nat.le_of_ble_eq_true rfl) (Nat.le_of_ble_eq_true rfl)) rfl hl.1 (Nat.le_of_ble_eq_true rfl) ⟨Nat.zero_le _, Nat.zero_le _⟩ dX12_join_71 (fun H locs hP hD hS => ?_)
            refine lv_iload hx hb dX12_join_74 (lv_at hl 0 rfl) ?_
            refine lv_iload hx hb dX12_join_76 (lv_at hl 5 rfl) ?_
            obtain ⟨cs_14, hv_14, h⟩ := ob h
            refine calV (As := [.int v_13, .int z_12.2, .int u4]) hx hb hml hts hown hK hP hD hS hA hZ (s_copy l dC dI cB cI cJ cZ h0 a K V fz F z_12.1 v_13 z_12.2 u4 cs_14 hv_14) (cw_copy hts (fr := 0) (Nat.le_of_ble_eq_true rfl) (Nat.le_of_ble_eq_true rfl)) rfl hl.1 (Nat.le_of_ble_eq_true rfl) ⟨Nat.zero_le _, Nat.zero_le _⟩ dX12_join_78 (fun H locs hP hD hS => ?_)
            refine lv_aload_n hx hb dX12_join_81 rfl (lv_at hl 1 rfl) ?_
            refine lv_aload_n hx hb dX12_join_82 rfl (lv_at hl 1 rfl) ?_
            refine lv_iload_n hx hb dX12_join_83 rfl (lv_at hl 3 rfl) ?_
            refine lv_iload hx hb dX12_join_84 (lv_at hl 10 rfl) ?_
            obtain ⟨v_15, hv_15, h⟩ := ob h
            refine calI (As := [.int u2, .int u9]) hx hb hml hts hown hK hP hD hS hA hZ (s_rowAt l dC dI cB cI cJ cZ h0 a K V fz F cs_14 u2 u9 v_15 hv_15) (cw_rowAt hts (fr := 0) (Nat.le_of_ble_eq_true rfl) (Nat.le_of_ble_eq_true rfl)) rfl hl.1 (Nat.le_of_ble_eq_true rfl) ⟨Nat.zero_le _, Nat.zero_le _⟩ dX12_join_86 (fun H locs hP hD hS => ?_)
            refine lv_iload hx hb dX12_join_89 (lv_at hl 0 rfl) ?_
            refine lv_iload hx hb dX12_join_91 (lv_at hl 5 rfl) ?_
            refine lv_iadd hx hb dX12_join_93 ?_
            refine lv_iload hx hb dX12_join_94 (lv_at hl 6 rfl) ?_
            obtain ⟨cs_16, hv_16, h⟩ := ob h
            refine calV (As := [.int v_15, .int (z_12.2 + u4), .int u5]) hx hb hml hts hown hK hP hD hS hA hZ (s_copy l dC dI cB cI cJ cZ h0 a K V fz F cs_14 v_15 (z_12.2 + u4) u5 cs_16 hv_16) (cw_copy hts (fr := 0) (Nat.le_of_ble_eq_true rfl) (Nat.le_of_ble_eq_true rfl)) rfl hl.1 (Nat.le_of_ble_eq_true rfl) ⟨Nat.zero_le _, Nat.zero_le _⟩ dX12_join_96 (fun H locs hP hD hS => ?_)
            refine lv_aload_n hx hb dX12_join_99 rfl (lv_at hl 1 rfl) ?_
            refine lv_iload hx hb dX12_join_100 (lv_at hl 0 rfl) ?_
            refine fp_93 hx hb hts hown hK hP hD hS dX12_join_102 (fun H locs hP hD hS => ?_)
            refine lv_aload_n hx hb dX12_join_105 rfl (lv_at hl 1 rfl) ?_
            refine lv_aload_n hx hb dX12_join_106 rfl (lv_at hl 1 rfl) ?_
            refine fg_58 hx hb hts hown hK hP dX12_join_107 ?_
            refine lv_iload_n hx hb dX12_join_110 rfl (lv_at hl 4 rfl) ?_
            obtain ⟨v_17, hv_17, h⟩ := ob h
            refine ag_58 hx hb hK hP hv_17 dX12_join_111 ?_
            obtain ⟨z_18, hv_18, h⟩ := ob h
            refine calI (As := [.int v_17]) hx hb hml hts hown hK hP hD hS hA hZ (s_truth l dC dI cB cI cJ cZ h0 a K V fz F 300 (setF cs_16 93 z_12.2) v_17 z_18.1 z_18.2 hv_18) (cw_truth hts (fr := 302) (Nat.le_of_ble_eq_true rfl) (Nat.le_of_ble_eq_true rfl)) rfl hl.1 (Nat.le_of_ble_eq_true rfl) ⟨Nat.zero_le _, Nat.zero_le _⟩ dX12_join_112 (fun H locs hP hD hS => ?_)
            refine lv_iconst (v := 1) hx hb dX12_join_115 (by decide) ?_
            refine lv_icmp_ne (tgt := 125) hx hb dX12_join_116 (by decide) (fun c_19 => ?_) (fun c_19 => ?_)
            · skip
              replace h := (if_neg c_19).symm.trans h
              refine lv_aload_n hx hb dX12_join_125 rfl (lv_at hl 1 rfl) ?_
              refine lv_dup hx hb dX12_join_126 rfl ?_
              refine fg_87 hx hb hts hown hK hP dX12_join_127 ?_
              refine lv_iload hx hb dX12_join_130 (lv_at hl 5 rfl) ?_
              refine lv_iload hx hb dX12_join_132 (lv_at hl 6 rfl) ?_
              refine lv_iadd hx hb dX12_join_134 ?_
              refine lv_isub hx hb dX12_join_135 ?_
              refine fp_87 hx hb hts hown hK hP hD hS dX12_join_136 (fun H locs hP hD hS => ?_)
              refine lv_aload_n hx hb dX12_join_139 rfl (lv_at hl 1 rfl) ?_
              refine fg_89 hx hb hts hown hK hP dX12_join_140 ?_
              refine lv_iload hx hb dX12_join_143 (lv_at hl 7 rfl) ?_
              refine lv_dup2_11 hx hb dX12_join_145 rfl rfl ?_
              obtain ⟨v_20, hv_20, h⟩ := ob h
              refine ag_89 hx hb hK hP hv_20 dX12_join_146 ?_
              refine lv_iconst (v := 1) hx hb dX12_join_147 (by decide) ?_
              refine lv_isub hx hb dX12_join_148 ?_
              obtain ⟨cs_21, hv_21, h⟩ := ob h
              refine ap_89 hx hb hK hP hD hS hv_21 dX12_join_149 (fun H locs hP hD hS => ?_)
              exact B_150 cs_21 u1 u2 u3 u4 u5 u6 u7 u8 u9 h _ _ _ hP hD hS (lv_sub hl [1, 2, 3, 4, 5, 6, 7, 8, 9, 10] rfl)
            · skip
              replace h := (if_pos c_19).symm.trans h
              refine lv_iconst (v := 1) hx hb dX12_join_119 (by decide) ?_
              refine lv_istore (lv' := [(8, .int 1), (10, .int z_12.2), (0, .ref h0), (1, .int u1), (2, .int u2), (3, .int u3), (4, .int u4), (5, .int u5), (6, .int u6), (7, .int u7), (9, .int u9)]) hx hb dX12_join_120 hl (by decide) rfl (fun ls hl => ?_)
              refine lv_goto (tgt := 150) hx hb dX12_join_122 (by decide) ?_
              exact B_150 z_18.1 u1 u2 u3 u4 u5 u6 u7 1 u9 h _ _ _ hP hD hS (lv_sub hl [2, 3, 4, 5, 6, 7, 8, 9, 0, 10] rfl)
      intro cs1 u1 u2 u3 u4 u5 u6 u7 h H locs ls hP hD hS hl
      rw [m_join_L30] at h
      refine lv_iload hx hb dX12_join_30 (lv_at hl 7 rfl) ?_
      refine lv_aload_n hx hb dX12_join_32 rfl (lv_at hl 0 rfl) ?_
      refine fg_89 hx hb hts hown hK hP dX12_join_33 ?_
      refine lv_iload_n hx hb dX12_join_36 rfl (lv_at hl 1 rfl) ?_
      obtain ⟨v_22, hv_22, h⟩ := ob h
      refine ag_89 hx hb hK hP hv_22 dX12_join_37 ?_
      refine lv_icmp_ge (tgt := 243) hx hb dX12_join_38 (by decide) (fun c_23 => ?_) (fun c_23 => ?_)
      · skip
        replace h := (if_pos c_23).symm.trans h
        refine lv_iload hx hb dX12_join_243 (lv_at hl 6 rfl) ?_
        obtain ⟨e1, e2⟩ := Prod.mk.inj (Option.some.inj h)
        rw [e1] at hP hD
        exact W.iret (v := u6) hx hb hr (fun t_ ht hW => ⟨⟨u6, (), rfl, e2, by rw [ht]; exact hP, hD⟩, hS.F ht⟩) hS.2.2 dX12_join_245
      · skip
        replace h := (if_neg c_23).symm.trans h
        refine lv_iconst (v := 0) hx hb dX12_join_41 (by decide) ?_
        refine lv_istore (lv' := [(8, .int 0), (0, .ref h0), (1, .int u1), (2, .int u2), (3, .int u3), (4, .int u4), (5, .int u5), (6, .int u6), (7, .int u7)]) hx hb dX12_join_42 hl (by decide) rfl (fun ls hl => ?_)
        refine lv_iconst (v := 0) hx hb dX12_join_44 (by decide) ?_
        refine lv_istore (lv' := [(9, .int 0), (8, .int 0), (0, .ref h0), (1, .int u1), (2, .int u2), (3, .int u3), (4, .int u4), (5, .int u5), (6, .int u6), (7, .int u7)]) hx hb dX12_join_45 hl (by decide) rfl (fun ls hl => ?_)
        exact L_47 F cs1 u1 u2 u3 u4 u5 u6 u7 0 0 h _ _ _ hP hD hS (lv_sub hl [2, 3, 4, 5, 6, 7, 8, 9, 1, 0] rfl)
  have h := hf
  unfold m_join at h
  refine lv_aload_n hx hb dX12_join_0 rfl (lv_at hl 0 rfl) ?_
  refine fg_90 hx hb hts hown hK hP dX12_join_1 ?_
  refine lv_iload_n hx hb dX12_join_4 rfl (lv_at hl 1 rfl) ?_
  obtain ⟨v_24, hv_24, h⟩ := ob h
  refine ag_90 hx hb hK hP hv_24 dX12_join_5 ?_
  refine lv_istore (lv' := [(4, .int v_24), (0, .ref h0), (1, .int x1), (2, .int x2), (3, .int x3)]) hx hb dX12_join_6 hl (by decide) rfl (fun ls hl => ?_)
  refine lv_aload_n hx hb dX12_join_8 rfl (lv_at hl 1 rfl) ?_
  refine fg_90 hx hb hts hown hK hP dX12_join_9 ?_
  refine lv_iload_n hx hb dX12_join_12 rfl (lv_at hl 3 rfl) ?_
  obtain ⟨v_25, hv_25, h⟩ := ob h
  refine ag_90 hx hb hK hP hv_25 dX12_join_13 ?_
  refine lv_istore (lv' := [(5, .int v_25), (4, .int v_24), (0, .ref h0), (1, .int x1), (2, .int x2), (3, .int x3)]) hx hb dX12_join_14 hl (by decide) rfl (fun ls hl => ?_)
  refine lv_aload_n hx hb dX12_join_16 rfl (lv_at hl 2 rfl) ?_
  refine lv_iload hx hb dX12_join_17 (lv_at hl 1 rfl) ?_
  refine lv_iload hx hb dX12_join_19 (lv_at hl 0 rfl) ?_
  refine lv_iadd hx hb dX12_join_21 ?_
  obtain ⟨z_26, hv_26, h⟩ := ob h
  refine calI (As := [.int (v_24 + v_25)]) hx hb hml hts hown hK hP hD hS hA hZ (s_relation l dC dI cB cI cJ cZ h0 a K V fz F cs (v_24 + v_25) z_26.1 z_26.2 hv_26) (cw_relation hts (fr := 0) (Nat.le_of_ble_eq_true rfl) (Nat.le_of_ble_eq_true rfl)) rfl hl.1 (Nat.le_of_ble_eq_true rfl) ⟨Nat.zero_le _, Nat.zero_le _⟩ dX12_join_22 (fun H locs hP hD hS => ?_)
  refine lv_istore (lv' := [(6, .int z_26.2), (5, .int v_25), (4, .int v_24), (0, .ref h0), (1, .int x1), (2, .int x2), (3, .int x3)]) hx hb dX12_join_25 hl (by decide) rfl (fun ls hl => ?_)
  refine lv_iconst (v := 0) hx hb dX12_join_27 (by decide) ?_
  refine lv_istore (lv' := [(7, .int 0), (6, .int z_26.2), (5, .int v_25), (4, .int v_24), (0, .ref h0), (1, .int x1), (2, .int x2), (3, .int x3)]) hx hb dX12_join_28 hl (by decide) rfl (fun ls hl => ?_)
  exact L_30 F z_26.1 x1 x2 x3 v_24 v_25 z_26.2 0 h _ _ _ hP hD hS (lv_sub hl [4, 5, 6, 7, 3, 2, 1, 0] rfl)
theorem cw_join {R : Room} {s : State} {args : Array Value} {y0 : MethodName} {c0 : ByteArray} {n0 : Nat} {r0 : Option FieldType} (hts : ∀ w ∈ wsOf y0 c0 n0 r0, w.before args s = true) {fr : Nat} (h1 : fr + 1 ≤ R.frames) (h2 : 8 + (11 + 11) + 60 * fr ≤ R.locals) : CallW R s args RX12 RX12 678 yX12_join cX12_join 11 (some .int) (wsOf yX12_join cX12_join 11 (some .int)) ({ frames := fr, cells := 0, slots := 0, locals := 60 * fr } : Room) 0 0 3 := cwV 3 hts (gd_all (in_V kw_2105 kw_2107 kw_107 kw_191 kc_X12_join)) rfl rfl rfl (by decide +kernel) ⟨h1, h2⟩
theorem dX12_filter_0 : decode cX12_filter 0 = .ok (.aload_n 0, 1) := by decide +kernel
theorem dX12_filter_1 : decode cX12_filter 1 = .ok (.aload_n 0, 1) := by decide +kernel
theorem dX12_filter_2 : decode cX12_filter 2 = .ok (.getfield 206, 3) := by decide +kernel
theorem dX12_filter_5 : decode cX12_filter 5 = .ok (.iload_n 1, 1) := by decide +kernel
theorem dX12_filter_6 : decode cX12_filter 6 = .ok (.iaload, 1) := by decide +kernel
theorem dX12_filter_7 : decode cX12_filter 7 = .ok (.invokevirtual 662, 3) := by decide +kernel
theorem dX12_filter_10 : decode cX12_filter 10 = .ok (.istore_n 3, 1) := by decide +kernel
theorem dX12_filter_11 : decode cX12_filter 11 = .ok (.iconst 0, 1) := by decide +kernel
theorem dX12_filter_12 : decode cX12_filter 12 = .ok (.istore 4, 2) := by decide +kernel
theorem dX12_filter_14 : decode cX12_filter 14 = .ok (.iload 4, 2) := by decide +kernel
theorem dX12_filter_16 : decode cX12_filter 16 = .ok (.aload_n 0, 1) := by decide +kernel
theorem dX12_filter_17 : decode cX12_filter 17 = .ok (.getfield 203, 3) := by decide +kernel
theorem dX12_filter_20 : decode cX12_filter 20 = .ok (.iload_n 1, 1) := by decide +kernel
theorem dX12_filter_21 : decode cX12_filter 21 = .ok (.iaload, 1) := by decide +kernel
theorem dX12_filter_22 : decode cX12_filter 22 = .ok (.if_icmp .ge 52, 3) := by decide +kernel
theorem dX12_filter_25 : decode cX12_filter 25 = .ok (.aload_n 0, 1) := by decide +kernel
theorem dX12_filter_26 : decode cX12_filter 26 = .ok (.aload_n 0, 1) := by decide +kernel
theorem dX12_filter_27 : decode cX12_filter 27 = .ok (.iload_n 1, 1) := by decide +kernel
theorem dX12_filter_28 : decode cX12_filter 28 = .ok (.iload 4, 2) := by decide +kernel
theorem dX12_filter_30 : decode cX12_filter 30 = .ok (.invokevirtual 653, 3) := by decide +kernel
theorem dX12_filter_33 : decode cX12_filter 33 = .ok (.putfield 621, 3) := by decide +kernel
theorem dX12_filter_36 : decode cX12_filter 36 = .ok (.aload_n 0, 1) := by decide +kernel
theorem dX12_filter_37 : decode cX12_filter 37 = .ok (.iload_n 2, 1) := by decide +kernel
theorem dX12_filter_38 : decode cX12_filter 38 = .ok (.invokevirtual 628, 3) := by decide +kernel
theorem dX12_filter_41 : decode cX12_filter 41 = .ok (.iconst 1, 1) := by decide +kernel
theorem dX12_filter_42 : decode cX12_filter 42 = .ok (.if_icmp .ne 26, 3) := by decide +kernel
theorem dX12_filter_45 : decode cX12_filter 45 = .ok (.aload_n 0, 1) := by decide +kernel
theorem dX12_filter_46 : decode cX12_filter 46 = .ok (.getfield 621, 3) := by decide +kernel
theorem dX12_filter_49 : decode cX12_filter 49 = .ok (.istore 5, 2) := by decide +kernel
theorem dX12_filter_51 : decode cX12_filter 51 = .ok (.aload_n 0, 1) := by decide +kernel
theorem dX12_filter_52 : decode cX12_filter 52 = .ok (.iload 5, 2) := by decide +kernel
theorem dX12_filter_54 : decode cX12_filter 54 = .ok (.aload_n 0, 1) := by decide +kernel
theorem dX12_filter_55 : decode cX12_filter 55 = .ok (.iload_n 3, 1) := by decide +kernel
theorem dX12_filter_56 : decode cX12_filter 56 = .ok (.invokevirtual 668, 3) := by decide +kernel
theorem dX12_filter_59 : decode cX12_filter 59 = .ok (.aload_n 0, 1) := by decide +kernel
theorem dX12_filter_60 : decode cX12_filter 60 = .ok (.getfield 206, 3) := by decide +kernel
theorem dX12_filter_63 : decode cX12_filter 63 = .ok (.iload_n 1, 1) := by decide +kernel
theorem dX12_filter_64 : decode cX12_filter 64 = .ok (.iaload, 1) := by decide +kernel
theorem dX12_filter_65 : decode cX12_filter 65 = .ok (.invokevirtual 671, 3) := by decide +kernel
theorem dX12_filter_68 : decode cX12_filter 68 = .ok (.iinc 4 1, 3) := by decide +kernel
theorem dX12_filter_71 : decode cX12_filter 71 = .ok (.goto (-57), 3) := by decide +kernel
theorem dX12_filter_74 : decode cX12_filter 74 = .ok (.iload_n 3, 1) := by decide +kernel
theorem dX12_filter_75 : decode cX12_filter 75 = .ok (.ireturn, 1) := by decide +kernel
def m_filter_b68 (F : Nat) (rc14 : RS → Int32 → Int32 → Int32 → Int32 → Option (RS × Int32)) (cs1 : RS) (u1 : Int32) (u2 : Int32) (u3 : Int32) (u4 : Int32) : Option (RS × Int32) := rc14 cs1 u1 u2 u3 (u4 + 1)
def m_filter_L14 (F : Nat) : Nat → RS → Int32 → Int32 → Int32 → Int32 → Option (RS × Int32)
  | 0, _, _, _, _, _ => none
  | lf_14 + 1, cs1, u1, u2, u3, u4 => Option.bind (rdI (cs1.2.2.1 89) 400 u1) fun v_1 => if v_1 ≤ u4 then (some (cs1, u3)) else (Option.bind (m_rowAt F cs1 u1 u4) fun v_3 => Option.bind (m_truth F 300 (setF cs1 93 v_3) u2) fun z_4 => if z_4.2 = 1 then (Option.bind (m_newRow F z_4.1 u3) fun z_6 => Option.bind (rdI (z_6.1.2.2.1 90) 400 u1) fun v_7 => Option.bind (m_copy F z_6.1 (z_4.1.1 93) z_6.2 v_7) fun cs_8 => m_filter_b68 F (m_filter_L14 F lf_14) cs_8 u1 u2 u3 u4) else (m_filter_b68 F (m_filter_L14 F lf_14) z_4.1 u1 u2 u3 u4))
def m_filter (F : Nat) (cs : RS) (x1 : Int32) (x2 : Int32) : Option (RS × Int32) := Option.bind (rdI (cs.2.2.1 90) 400 x1) fun v_9 => Option.bind (m_relation F cs v_9) fun z_10 => m_filter_L14 F F z_10.1 x1 x2 z_10.2 0
set_option maxHeartbeats 4000000 in
set_option maxRecDepth 100000 in
theorem s_filter (l : Launch) (dC : Nat → ClassId) (dI : Nat → Nat → Nat) (cB cI cJ cZ : ClassId) (h0 : Nat) (a : Nat → Nat) (K V : Nat → Nat) (fz : Value) (F : Nat) (cs : RS) (x1 : Int32) (x2 : Int32) (cs9 : RS) (r9 : Int32) (hf : m_filter F cs x1 x2 = some (cs9, r9)) : okI l dC dI cB cI cJ cZ h0 a K V fz yX12_filter (wsOf yX12_filter cX12_filter 6 (some .int)) (303) [.ref h0, .int x1, .int x2] cs cs9 r9 := by
  intro sz
  refine Met.ofW (cc := cX12_filter) (maxL := 6) (ret := (some .int)) (by decide) rfl ?_
  intro p e s m args below meth c s₁ B hml hv
  obtain ⟨rfl, hsz, hP, hK, hD0, hZ⟩ := hv
  have hx := B.exec
  have hb := B.bytes
  have hr := B.returns
  have hts := atoms_spec (ws := (wsOf yX12_filter cX12_filter 6 (some .int))) B.pre
  have hown : s.vm.findClass RX12 = some m.cls := findClass_of_methodNamed B.named
  have hlocks := B.notSynchronized
  subst hsz
  have hD := hD0.self (sz := s.heap.size)
  generalize hAe : va_A (mW cB cI cJ cZ h0 a cs) s.heap.size = A at hD hZ ⊢
  have hA : ∀ q : Nat, s.heap.size ≤ q → A q := fun q h => by rw [← hAe]; exact Or.inr h
  have hS : va_S A s.heap s.heap [] := va_S.rf
  have hl := lv_entry ([.ref h0, .int x1, .int x2]) (n := 6) (Nat.le_of_ble_eq_true rfl)
  rw [lg_entry_eq]
  generalize (lg_sl ([.ref h0, .int x1, .int x2]) ++ List.replicate (6 - (lg_sl ([.ref h0, .int x1, .int x2])).length) Slot.unset).toArray = ls at hl ⊢
  have hl : lv_has ls 6 [(0, .ref h0), (1, .int x1), (2, .int x2)] := hl
  have L_14 : ∀ (lf_14 : Nat), ∀ (cs1 : RS) (u1 : Int32) (u2 : Int32) (u3 : Int32) (u4 : Int32), m_filter_L14 F lf_14 cs1 u1 u2 u3 u4 = some (cs9, r9) → ∀ (H : Heap) (locs : List Loc) (ls : Array Slot), va_P (dC, dI) vwCl (mW cB cI cJ cZ h0 a cs1) H → va_D A (mW cB cI cJ cZ h0 a cs1) → va_S A s.heap H locs → lv_has ls 6 [(0, .ref h0), (1, .int u1), (2, .int u2), (3, .int u3), (4, .int u4)] → W p l e (headSpec (wsOf yX12_filter cX12_filter 6 (some .int)) ({ frames := 303, cells := 0, slots := 0, locals := 60 * (303) } : Room)).room s m ([.ref h0, .int x1, .int x2] : List Value).toArray below meth c H locs 0 0 (MQ below (va_Qi (fun (x : Int32) (_ : Unit) => x = r9) (fun _ t_ => va_P (dC, dI) vwCl (mW cB cI cJ cZ h0 a cs9) t_.heap ∧ va_D A (mW cB cI cJ cZ h0 a cs9)) A) ([.ref h0, .int x1, .int x2] : List Value).toArray s 0 0 A) (F0 m 14 ls []) := by
    intro lf_14
    induction lf_14 with
    | zero => intro cs1 u1 u2 u3 u4 h; cases (show (none : Option (RS × Int32)) = _ from h)
    | succ lf_14 ih_14 =>
      have B_68 : ∀ (cs1 : RS) (u1 : Int32) (u2 : Int32) (u3 : Int32) (u4 : Int32), m_filter_b68 F (m_filter_L14 F lf_14) cs1 u1 u2 u3 u4 = some (cs9, r9) → ∀ (H : Heap) (locs : List Loc) (ls : Array Slot), va_P (dC, dI) vwCl (mW cB cI cJ cZ h0 a cs1) H → va_D A (mW cB cI cJ cZ h0 a cs1) → va_S A s.heap H locs → lv_has ls 6 [(0, .ref h0), (1, .int u1), (2, .int u2), (3, .int u3), (4, .int u4)] → W p l e (headSpec (wsOf yX12_filter cX12_filter 6 (some .int)) ({ frames := 303, cells := 0, slots := 0, locals := 60 * (303) } : Room)).room s m ([.ref h0, .int x1, .int x2] : List Value).toArray below meth c H locs 0 0 (MQ below (va_Qi (fun (x : Int32) (_ : Unit) => x = r9) (fun _ t_ => va_P (dC, dI) vwCl (mW cB cI cJ cZ h0 a cs9) t_.heap ∧ va_D A (mW cB cI cJ cZ h0 a cs9)) A) ([.ref h0, .int x1, .int x2] : List Value).toArray s 0 0 A) (F0 m 68 ls []) := by
        intro cs1 u1 u2 u3 u4 h H locs ls hP hD hS hl
        unfold m_filter_b68 at h
        refine lv_iinc (v := u4 + 1) (lv' := [(4, .int (u4 + 1)), (0, .ref h0), (1, .int u1), (2, .int u2), (3, .int u3)]) hx hb dX12_filter_68 hl (k := 4) rfl rfl (by decide) rfl (fun ls hl => ?_)
        refine lv_goto (tgt := 14) hx hb dX12_filter_71 (by decide) ?_
        exact ih_14 cs1 u1 u2 u3 (u4 + 1) h _ _ _ hP hD hS (lv_sub hl [1, 2, 3, 4, 0] rfl)
      intro cs1 u1 u2 u3 u4 h H locs ls hP hD hS hl
      rw [m_filter_L14] at h
      refine lv_iload hx hb dX12_filter_14 (lv_at hl 4 rfl) ?_
      refine lv_aload_n hx hb dX12_filter_16 rfl (lv_at hl 0 rfl) ?_
      refine fg_89 hx hb hts hown hK hP dX12_filter_17 ?_
      refine lv_iload_n hx hb dX12_filter_20 rfl (lv_at hl 1 rfl) ?_
      obtain ⟨v_1, hv_1, h⟩ := ob h
      refine ag_89 hx hb hK hP hv_1 dX12_filter_21 ?_
      refine lv_icmp_ge (tgt := 74) hx hb dX12_filter_22 (by decide) (fun c_2 => ?_) (fun c_2 => ?_)
      · skip
        replace h := (if_pos c_2).symm.trans h
        refine lv_iload_n hx hb dX12_filter_74 rfl (lv_at hl 3 rfl) ?_
        obtain ⟨e1, e2⟩ := Prod.mk.inj (Option.some.inj h)
        rw [e1] at hP hD
        exact W.iret (v := u3) hx hb hr (fun t_ ht hW => ⟨⟨u3, (), rfl, e2, by rw [ht]; exact hP, hD⟩, hS.F ht⟩) hS.2.2 dX12_filter_75
      · skip
        replace h := (if_neg c_2).symm.trans h
        refine lv_aload_n hx hb dX12_filter_25 rfl (lv_at hl 0 rfl) ?_
        refine lv_aload_n hx hb dX12_filter_26 rfl (lv_at hl 0 rfl) ?_
        refine lv_iload_n hx hb dX12_filter_27 rfl (lv_at hl 1 rfl) ?_
        refine lv_iload hx hb dX12_filter_28 (lv_at hl 4 rfl) ?_
        obtain ⟨v_3, hv_3, h⟩ := ob h
        refine calI (As := [.int u1, .int u4]) hx hb hml hts hown hK hP hD hS hA hZ (s_rowAt l dC dI cB cI cJ cZ h0 a K V fz F cs1 u1 u4 v_3 hv_3) (cw_rowAt hts (fr := 0) (Nat.le_of_ble_eq_true rfl) (Nat.le_of_ble_eq_true rfl)) rfl hl.1 (Nat.le_of_ble_eq_true rfl) ⟨Nat.zero_le _, Nat.zero_le _⟩ dX12_filter_30 (fun H locs hP hD hS => ?_)
        refine fp_93 hx hb hts hown hK hP hD hS dX12_filter_33 (fun H locs hP hD hS => ?_)
        refine lv_aload_n hx hb dX12_filter_36 rfl (lv_at hl 0 rfl) ?_
        refine lv_iload_n hx hb dX12_filter_37 rfl (lv_at hl 2 rfl) ?_
        obtain ⟨z_4, hv_4, h⟩ := ob h
        refine calI (As := [.int u2]) hx hb hml hts hown hK hP hD hS hA hZ (s_truth l dC dI cB cI cJ cZ h0 a K V fz F 300 (setF cs1 93 v_3) u2 z_4.1 z_4.2 hv_4) (cw_truth hts (fr := 302) (Nat.le_of_ble_eq_true rfl) (Nat.le_of_ble_eq_true rfl)) rfl hl.1 (Nat.le_of_ble_eq_true rfl) ⟨Nat.zero_le _, Nat.zero_le _⟩ dX12_filter_38 (fun H locs hP hD hS => ?_)
        refine lv_iconst (v := 1) hx hb dX12_filter_41 (by decide) ?_
        refine lv_icmp_ne (tgt := 68) hx hb dX12_filter_42 (by decide) (fun c_5 => ?_) (fun c_5 => ?_)
        · skip
          replace h := (if_neg c_5).symm.trans h
          exact B_68 z_4.1 u1 u2 u3 u4 h _ _ _ hP hD hS (lv_sub hl [0, 1, 2, 3, 4] rfl)
        · skip
          replace h := (if_pos c_5).symm.trans h
          refine lv_aload_n hx hb dX12_filter_45 rfl (lv_at hl 0 rfl) ?_
          refine fg_93 hx hb hts hown hK hP dX12_filter_46 ?_
          refine lv_istore (lv' := [(5, .int (z_4.1.1 93)), (0, .ref h0), (1, .int u1), (2, .int u2), (3, .int u3), (4, .int u4)]) hx hb dX12_filter_49 hl (by decide) rfl (fun ls hl => ?_)
          refine lv_aload_n hx hb dX12_filter_51 rfl (lv_at hl 1 rfl) ?_
          refine lv_iload hx hb dX12_filter_52 (lv_at hl 0 rfl) ?_
          refine lv_aload_n hx hb dX12_filter_54 rfl (lv_at hl 1 rfl) ?_
          refine lv_iload_n hx hb dX12_filter_55 rfl (lv_at hl 4 rfl) ?_
          obtain ⟨z_6, hv_6, h⟩ := ob h
          refine calI (As := [.int u3]) hx hb hml hts hown hK hP hD hS hA hZ (s_newRow l dC dI cB cI cJ cZ h0 a K V fz F z_4.1 u3 z_6.1 z_6.2 hv_6) (cw_newRow hts (fr := 0) (Nat.le_of_ble_eq_true rfl) (Nat.le_of_ble_eq_true rfl)) rfl hl.1 (Nat.le_of_ble_eq_true rfl) ⟨Nat.zero_le _, Nat.zero_le _⟩ dX12_filter_56 (fun H locs hP hD hS => ?_)
          refine lv_aload_n hx hb dX12_filter_59 rfl (lv_at hl 1 rfl) ?_
          refine fg_90 hx hb hts hown hK hP dX12_filter_60 ?_
          refine lv_iload_n hx hb dX12_filter_63 rfl (lv_at hl 2 rfl) ?_
          obtain ⟨v_7, hv_7, h⟩ := ob h
          refine ag_90 hx hb hK hP hv_7 dX12_filter_64 ?_
          obtain ⟨cs_8, hv_8, h⟩ := ob h
          refine calV (As := [.int (z_4.1.1 93), .int z_6.2, .int v_7]) hx hb hml hts hown hK hP hD hS hA hZ (s_copy l dC dI cB cI cJ cZ h0 a K V fz F z_6.1 (z_4.1.1 93) z_6.2 v_7 cs_8 hv_8) (cw_copy hts (fr := 0) (Nat.le_of_ble_eq_true rfl) (Nat.le_of_ble_eq_true rfl)) rfl hl.1 (Nat.le_of_ble_eq_true rfl) ⟨Nat.zero_le _, Nat.zero_le _⟩ dX12_filter_65 (fun H locs hP hD hS => ?_)
          exact B_68 cs_8 u1 u2 u3 u4 h _ _ _ hP hD hS (lv_sub hl [1, 2, 3, 4, 5] rfl)
  have h := hf
  unfold m_filter at h
  refine lv_aload_n hx hb dX12_filter_0 rfl (lv_at hl 0 rfl) ?_
  refine lv_aload_n hx hb dX12_filter_1 rfl (lv_at hl 0 rfl) ?_
  refine fg_90 hx hb hts hown hK hP dX12_filter_2 ?_
  refine lv_iload_n hx hb dX12_filter_5 rfl (lv_at hl 1 rfl) ?_
  obtain ⟨v_9, hv_9, h⟩ := ob h
  refine ag_90 hx hb hK hP hv_9 dX12_filter_6 ?_
  obtain ⟨z_10, hv_10, h⟩ := ob h
  refine calI (As := [.int v_9]) hx hb hml hts hown hK hP hD hS hA hZ (s_relation l dC dI cB cI cJ cZ h0 a K V fz F cs v_9 z_10.1 z_10.2 hv_10) (cw_relation hts (fr := 0) (Nat.le_of_ble_eq_true rfl) (Nat.le_of_ble_eq_true rfl)) rfl hl.1 (Nat.le_of_ble_eq_true rfl) ⟨Nat.zero_le _, Nat.zero_le _⟩ dX12_filter_7 (fun H locs hP hD hS => ?_)
  refine lv_istore_n (lv' := [(3, .int z_10.2), (0, .ref h0), (1, .int x1), (2, .int x2)]) hx hb dX12_filter_10 rfl hl (by decide) rfl (fun ls hl => ?_)
  refine lv_iconst (v := 0) hx hb dX12_filter_11 (by decide) ?_
  refine lv_istore (lv' := [(4, .int 0), (3, .int z_10.2), (0, .ref h0), (1, .int x1), (2, .int x2)]) hx hb dX12_filter_12 hl (by decide) rfl (fun ls hl => ?_)
  exact L_14 F z_10.1 x1 x2 z_10.2 0 h _ _ _ hP hD hS (lv_sub hl [2, 3, 4, 1, 0] rfl)
theorem cw_filter {R : Room} {s : State} {args : Array Value} {y0 : MethodName} {c0 : ByteArray} {n0 : Nat} {r0 : Option FieldType} (hts : ∀ w ∈ wsOf y0 c0 n0 r0, w.before args s = true) {fr : Nat} (h1 : fr + 1 ≤ R.frames) (h2 : 8 + (6 + 11) + 60 * fr ≤ R.locals) : CallW R s args RX12 RX12 681 yX12_filter cX12_filter 6 (some .int) (wsOf yX12_filter cX12_filter 6 (some .int)) ({ frames := fr, cells := 0, slots := 0, locals := 60 * fr } : Room) 0 0 2 := cwV 2 hts (gd_all (in_V kw_2153 kw_2155 kw_118 kw_191 kc_X12_filter)) rfl rfl rfl (by decide +kernel) ⟨h1, h2⟩
theorem dX12_grouped_0 : decode cX12_grouped 0 = .ok (.aload_n 0, 1) := by decide +kernel
theorem dX12_grouped_1 : decode cX12_grouped 1 = .ok (.getfield 97, 3) := by decide +kernel
theorem dX12_grouped_4 : decode cX12_grouped 4 = .ok (.iload_n 1, 1) := by decide +kernel
theorem dX12_grouped_5 : decode cX12_grouped 5 = .ok (.iaload, 1) := by decide +kernel
theorem dX12_grouped_6 : decode cX12_grouped 6 = .ok (.istore_n 3, 1) := by decide +kernel
theorem dX12_grouped_7 : decode cX12_grouped 7 = .ok (.aload_n 0, 1) := by decide +kernel
theorem dX12_grouped_8 : decode cX12_grouped 8 = .ok (.iload_n 3, 1) := by decide +kernel
theorem dX12_grouped_9 : decode cX12_grouped 9 = .ok (.invokevirtual 662, 3) := by decide +kernel
theorem dX12_grouped_12 : decode cX12_grouped 12 = .ok (.istore 4, 2) := by decide +kernel
theorem dX12_grouped_14 : decode cX12_grouped 14 = .ok (.iconst 0, 1) := by decide +kernel
theorem dX12_grouped_15 : decode cX12_grouped 15 = .ok (.istore 5, 2) := by decide +kernel
theorem dX12_grouped_17 : decode cX12_grouped 17 = .ok (.iconst 0, 1) := by decide +kernel
theorem dX12_grouped_18 : decode cX12_grouped 18 = .ok (.istore 6, 2) := by decide +kernel
theorem dX12_grouped_20 : decode cX12_grouped 20 = .ok (.iload 6, 2) := by decide +kernel
theorem dX12_grouped_22 : decode cX12_grouped 22 = .ok (.aload_n 0, 1) := by decide +kernel
theorem dX12_grouped_23 : decode cX12_grouped 23 = .ok (.getfield 203, 3) := by decide +kernel
theorem dX12_grouped_26 : decode cX12_grouped 26 = .ok (.iload_n 2, 1) := by decide +kernel
theorem dX12_grouped_27 : decode cX12_grouped 27 = .ok (.iaload, 1) := by decide +kernel
theorem dX12_grouped_28 : decode cX12_grouped 28 = .ok (.if_icmp .ge 160, 3) := by decide +kernel
theorem dX12_grouped_31 : decode cX12_grouped 31 = .ok (.aload_n 0, 1) := by decide +kernel
theorem dX12_grouped_32 : decode cX12_grouped 32 = .ok (.iload 4, 2) := by decide +kernel
theorem dX12_grouped_34 : decode cX12_grouped 34 = .ok (.invokevirtual 668, 3) := by decide +kernel
theorem dX12_grouped_37 : decode cX12_grouped 37 = .ok (.istore 7, 2) := by decide +kernel
theorem dX12_grouped_39 : decode cX12_grouped 39 = .ok (.iconst 0, 1) := by decide +kernel
theorem dX12_grouped_40 : decode cX12_grouped 40 = .ok (.istore 8, 2) := by decide +kernel
theorem dX12_grouped_42 : decode cX12_grouped 42 = .ok (.iload 8, 2) := by decide +kernel
theorem dX12_grouped_44 : decode cX12_grouped 44 = .ok (.iload_n 3, 1) := by decide +kernel
theorem dX12_grouped_45 : decode cX12_grouped 45 = .ok (.if_icmp .ge 60, 3) := by decide +kernel
theorem dX12_grouped_48 : decode cX12_grouped 48 = .ok (.aload_n 0, 1) := by decide +kernel
theorem dX12_grouped_49 : decode cX12_grouped 49 = .ok (.aload_n 0, 1) := by decide +kernel
theorem dX12_grouped_50 : decode cX12_grouped 50 = .ok (.iload_n 2, 1) := by decide +kernel
theorem dX12_grouped_51 : decode cX12_grouped 51 = .ok (.iload 6, 2) := by decide +kernel
theorem dX12_grouped_53 : decode cX12_grouped 53 = .ok (.invokevirtual 653, 3) := by decide +kernel
theorem dX12_grouped_56 : decode cX12_grouped 56 = .ok (.putfield 621, 3) := by decide +kernel
theorem dX12_grouped_59 : decode cX12_grouped 59 = .ok (.aload_n 0, 1) := by decide +kernel
theorem dX12_grouped_60 : decode cX12_grouped 60 = .ok (.getfield 194, 3) := by decide +kernel
theorem dX12_grouped_63 : decode cX12_grouped 63 = .ok (.iload 7, 2) := by decide +kernel
theorem dX12_grouped_65 : decode cX12_grouped 65 = .ok (.iload 8, 2) := by decide +kernel
theorem dX12_grouped_67 : decode cX12_grouped 67 = .ok (.iadd, 1) := by decide +kernel
theorem dX12_grouped_68 : decode cX12_grouped 68 = .ok (.aload_n 0, 1) := by decide +kernel
theorem dX12_grouped_69 : decode cX12_grouped 69 = .ok (.aload_n 0, 1) := by decide +kernel
theorem dX12_grouped_70 : decode cX12_grouped 70 = .ok (.getfield 121, 3) := by decide +kernel
theorem dX12_grouped_73 : decode cX12_grouped 73 = .ok (.bipush 8, 2) := by decide +kernel
theorem dX12_grouped_75 : decode cX12_grouped 75 = .ok (.iload_n 1, 1) := by decide +kernel
theorem dX12_grouped_76 : decode cX12_grouped 76 = .ok (.imul, 1) := by decide +kernel
theorem dX12_grouped_77 : decode cX12_grouped 77 = .ok (.iload 8, 2) := by decide +kernel
theorem dX12_grouped_79 : decode cX12_grouped 79 = .ok (.iadd, 1) := by decide +kernel
theorem dX12_grouped_80 : decode cX12_grouped 80 = .ok (.iaload, 1) := by decide +kernel
theorem dX12_grouped_81 : decode cX12_grouped 81 = .ok (.invokevirtual 600, 3) := by decide +kernel
theorem dX12_grouped_84 : decode cX12_grouped 84 = .ok (.lastore, 1) := by decide +kernel
theorem dX12_grouped_85 : decode cX12_grouped 85 = .ok (.aload_n 0, 1) := by decide +kernel
theorem dX12_grouped_86 : decode cX12_grouped 86 = .ok (.getfield 197, 3) := by decide +kernel
theorem dX12_grouped_89 : decode cX12_grouped 89 = .ok (.iload 7, 2) := by decide +kernel
theorem dX12_grouped_91 : decode cX12_grouped 91 = .ok (.iload 8, 2) := by decide +kernel
theorem dX12_grouped_93 : decode cX12_grouped 93 = .ok (.iadd, 1) := by decide +kernel
theorem dX12_grouped_94 : decode cX12_grouped 94 = .ok (.aload_n 0, 1) := by decide +kernel
theorem dX12_grouped_95 : decode cX12_grouped 95 = .ok (.getfield 604, 3) := by decide +kernel
theorem dX12_grouped_98 : decode cX12_grouped 98 = .ok (.bastore, 1) := by decide +kernel
theorem dX12_grouped_99 : decode cX12_grouped 99 = .ok (.iinc 8 1, 3) := by decide +kernel
theorem dX12_grouped_102 : decode cX12_grouped 102 = .ok (.goto (-60), 3) := by decide +kernel
theorem dX12_grouped_105 : decode cX12_grouped 105 = .ok (.iconst 0, 1) := by decide +kernel
theorem dX12_grouped_106 : decode cX12_grouped 106 = .ok (.istore 8, 2) := by decide +kernel
theorem dX12_grouped_108 : decode cX12_grouped 108 = .ok (.iload 8, 2) := by decide +kernel
theorem dX12_grouped_110 : decode cX12_grouped 110 = .ok (.iload 5, 2) := by decide +kernel
theorem dX12_grouped_112 : decode cX12_grouped 112 = .ok (.if_icmp .ge 27, 3) := by decide +kernel
theorem dX12_grouped_115 : decode cX12_grouped 115 = .ok (.aload_n 0, 1) := by decide +kernel
theorem dX12_grouped_116 : decode cX12_grouped 116 = .ok (.aload_n 0, 1) := by decide +kernel
theorem dX12_grouped_117 : decode cX12_grouped 117 = .ok (.iload 4, 2) := by decide +kernel
theorem dX12_grouped_119 : decode cX12_grouped 119 = .ok (.iload 8, 2) := by decide +kernel
theorem dX12_grouped_121 : decode cX12_grouped 121 = .ok (.invokevirtual 653, 3) := by decide +kernel
theorem dX12_grouped_124 : decode cX12_grouped 124 = .ok (.iload 7, 2) := by decide +kernel
theorem dX12_grouped_126 : decode cX12_grouped 126 = .ok (.iload_n 3, 1) := by decide +kernel
theorem dX12_grouped_127 : decode cX12_grouped 127 = .ok (.invokevirtual 693, 3) := by decide +kernel
theorem dX12_grouped_130 : decode cX12_grouped 130 = .ok (.ifCond .eq 9, 3) := by decide +kernel
theorem dX12_grouped_133 : decode cX12_grouped 133 = .ok (.iinc 8 1, 3) := by decide +kernel
theorem dX12_grouped_136 : decode cX12_grouped 136 = .ok (.goto (-28), 3) := by decide +kernel
theorem dX12_grouped_139 : decode cX12_grouped 139 = .ok (.iload 8, 2) := by decide +kernel
theorem dX12_grouped_141 : decode cX12_grouped 141 = .ok (.iload 5, 2) := by decide +kernel
theorem dX12_grouped_143 : decode cX12_grouped 143 = .ok (.if_icmp .ge 27, 3) := by decide +kernel
theorem dX12_grouped_146 : decode cX12_grouped 146 = .ok (.aload_n 0, 1) := by decide +kernel
theorem dX12_grouped_147 : decode cX12_grouped 147 = .ok (.dup, 1) := by decide +kernel
theorem dX12_grouped_148 : decode cX12_grouped 148 = .ok (.getfield 593, 3) := by decide +kernel
theorem dX12_grouped_151 : decode cX12_grouped 151 = .ok (.iload_n 3, 1) := by decide +kernel
theorem dX12_grouped_152 : decode cX12_grouped 152 = .ok (.isub, 1) := by decide +kernel
theorem dX12_grouped_153 : decode cX12_grouped 153 = .ok (.putfield 593, 3) := by decide +kernel
theorem dX12_grouped_156 : decode cX12_grouped 156 = .ok (.aload_n 0, 1) := by decide +kernel
theorem dX12_grouped_157 : decode cX12_grouped 157 = .ok (.getfield 203, 3) := by decide +kernel
theorem dX12_grouped_160 : decode cX12_grouped 160 = .ok (.iload 4, 2) := by decide +kernel
theorem dX12_grouped_162 : decode cX12_grouped 162 = .ok (.dup2, 1) := by decide +kernel
theorem dX12_grouped_163 : decode cX12_grouped 163 = .ok (.iaload, 1) := by decide +kernel
theorem dX12_grouped_164 : decode cX12_grouped 164 = .ok (.iconst 1, 1) := by decide +kernel
theorem dX12_grouped_165 : decode cX12_grouped 165 = .ok (.isub, 1) := by decide +kernel
theorem dX12_grouped_166 : decode cX12_grouped 166 = .ok (.iastore, 1) := by decide +kernel
theorem dX12_grouped_167 : decode cX12_grouped 167 = .ok (.goto 6, 3) := by decide +kernel
theorem dX12_grouped_170 : decode cX12_grouped 170 = .ok (.iinc 5 1, 3) := by decide +kernel
theorem dX12_grouped_173 : decode cX12_grouped 173 = .ok (.aload_n 0, 1) := by decide +kernel
theorem dX12_grouped_174 : decode cX12_grouped 174 = .ok (.getfield 209, 3) := by decide +kernel
theorem dX12_grouped_177 : decode cX12_grouped 177 = .ok (.iload 6, 2) := by decide +kernel
theorem dX12_grouped_179 : decode cX12_grouped 179 = .ok (.iload 8, 2) := by decide +kernel
theorem dX12_grouped_181 : decode cX12_grouped 181 = .ok (.iastore, 1) := by decide +kernel
theorem dX12_grouped_182 : decode cX12_grouped 182 = .ok (.iinc 6 1, 3) := by decide +kernel
theorem dX12_grouped_185 : decode cX12_grouped 185 = .ok (.goto (-165), 3) := by decide +kernel
theorem dX12_grouped_188 : decode cX12_grouped 188 = .ok (.aload_n 0, 1) := by decide +kernel
theorem dX12_grouped_189 : decode cX12_grouped 189 = .ok (.getfield 100, 3) := by decide +kernel
theorem dX12_grouped_192 : decode cX12_grouped 192 = .ok (.iload_n 1, 1) := by decide +kernel
theorem dX12_grouped_193 : decode cX12_grouped 193 = .ok (.iaload, 1) := by decide +kernel
theorem dX12_grouped_194 : decode cX12_grouped 194 = .ok (.iconst (-1), 1) := by decide +kernel
theorem dX12_grouped_195 : decode cX12_grouped 195 = .ok (.if_icmp .ne 6, 3) := by decide +kernel
theorem dX12_grouped_198 : decode cX12_grouped 198 = .ok (.iconst 1, 1) := by decide +kernel
theorem dX12_grouped_199 : decode cX12_grouped 199 = .ok (.istore 5, 2) := by decide +kernel
theorem dX12_grouped_201 : decode cX12_grouped 201 = .ok (.aload_n 0, 1) := by decide +kernel
theorem dX12_grouped_202 : decode cX12_grouped 202 = .ok (.aload_n 0, 1) := by decide +kernel
theorem dX12_grouped_203 : decode cX12_grouped 203 = .ok (.getfield 88, 3) := by decide +kernel
theorem dX12_grouped_206 : decode cX12_grouped 206 = .ok (.iload_n 1, 1) := by decide +kernel
theorem dX12_grouped_207 : decode cX12_grouped 207 = .ok (.iaload, 1) := by decide +kernel
theorem dX12_grouped_208 : decode cX12_grouped 208 = .ok (.invokevirtual 662, 3) := by decide +kernel
theorem dX12_grouped_211 : decode cX12_grouped 211 = .ok (.istore 6, 2) := by decide +kernel
theorem dX12_grouped_213 : decode cX12_grouped 213 = .ok (.iconst 0, 1) := by decide +kernel
theorem dX12_grouped_214 : decode cX12_grouped 214 = .ok (.istore 7, 2) := by decide +kernel
theorem dX12_grouped_216 : decode cX12_grouped 216 = .ok (.iload 7, 2) := by decide +kernel
theorem dX12_grouped_218 : decode cX12_grouped 218 = .ok (.iload 5, 2) := by decide +kernel
theorem dX12_grouped_220 : decode cX12_grouped 220 = .ok (.if_icmp .ge 134, 3) := by decide +kernel
theorem dX12_grouped_223 : decode cX12_grouped 223 = .ok (.aload_n 0, 1) := by decide +kernel
theorem dX12_grouped_224 : decode cX12_grouped 224 = .ok (.iload_n 2, 1) := by decide +kernel
theorem dX12_grouped_225 : decode cX12_grouped 225 = .ok (.putfield 647, 3) := by decide +kernel
theorem dX12_grouped_228 : decode cX12_grouped 228 = .ok (.aload_n 0, 1) := by decide +kernel
theorem dX12_grouped_229 : decode cX12_grouped 229 = .ok (.iload 7, 2) := by decide +kernel
theorem dX12_grouped_231 : decode cX12_grouped 231 = .ok (.putfield 650, 3) := by decide +kernel
theorem dX12_grouped_234 : decode cX12_grouped 234 = .ok (.aload_n 0, 1) := by decide +kernel
theorem dX12_grouped_235 : decode cX12_grouped 235 = .ok (.aload_n 0, 1) := by decide +kernel
theorem dX12_grouped_236 : decode cX12_grouped 236 = .ok (.iload 4, 2) := by decide +kernel
theorem dX12_grouped_238 : decode cX12_grouped 238 = .ok (.iload 7, 2) := by decide +kernel
theorem dX12_grouped_240 : decode cX12_grouped 240 = .ok (.invokevirtual 653, 3) := by decide +kernel
theorem dX12_grouped_243 : decode cX12_grouped 243 = .ok (.putfield 618, 3) := by decide +kernel
theorem dX12_grouped_246 : decode cX12_grouped 246 = .ok (.aload_n 0, 1) := by decide +kernel
theorem dX12_grouped_247 : decode cX12_grouped 247 = .ok (.iconst 1, 1) := by decide +kernel
theorem dX12_grouped_248 : decode cX12_grouped 248 = .ok (.putfield 615, 3) := by decide +kernel
theorem dX12_grouped_251 : decode cX12_grouped 251 = .ok (.aload_n 0, 1) := by decide +kernel
theorem dX12_grouped_252 : decode cX12_grouped 252 = .ok (.getfield 103, 3) := by decide +kernel
theorem dX12_grouped_255 : decode cX12_grouped 255 = .ok (.iload_n 1, 1) := by decide +kernel
theorem dX12_grouped_256 : decode cX12_grouped 256 = .ok (.iaload, 1) := by decide +kernel
theorem dX12_grouped_257 : decode cX12_grouped 257 = .ok (.iconst (-1), 1) := by decide +kernel
theorem dX12_grouped_258 : decode cX12_grouped 258 = .ok (.if_icmp .eq 17, 3) := by decide +kernel
theorem dX12_grouped_261 : decode cX12_grouped 261 = .ok (.aload_n 0, 1) := by decide +kernel
theorem dX12_grouped_262 : decode cX12_grouped 262 = .ok (.aload_n 0, 1) := by decide +kernel
theorem dX12_grouped_263 : decode cX12_grouped 263 = .ok (.getfield 103, 3) := by decide +kernel
theorem dX12_grouped_266 : decode cX12_grouped 266 = .ok (.iload_n 1, 1) := by decide +kernel
theorem dX12_grouped_267 : decode cX12_grouped 267 = .ok (.iaload, 1) := by decide +kernel
theorem dX12_grouped_268 : decode cX12_grouped 268 = .ok (.invokevirtual 628, 3) := by decide +kernel
theorem dX12_grouped_271 : decode cX12_grouped 271 = .ok (.iconst 1, 1) := by decide +kernel
theorem dX12_grouped_272 : decode cX12_grouped 272 = .ok (.if_icmp .ne 71, 3) := by decide +kernel
theorem dX12_grouped_275 : decode cX12_grouped 275 = .ok (.aload_n 0, 1) := by decide +kernel
theorem dX12_grouped_276 : decode cX12_grouped 276 = .ok (.iload 6, 2) := by decide +kernel
theorem dX12_grouped_278 : decode cX12_grouped 278 = .ok (.invokevirtual 668, 3) := by decide +kernel
theorem dX12_grouped_281 : decode cX12_grouped 281 = .ok (.istore 8, 2) := by decide +kernel
theorem dX12_grouped_283 : decode cX12_grouped 283 = .ok (.iconst 0, 1) := by decide +kernel
theorem dX12_grouped_284 : decode cX12_grouped 284 = .ok (.istore 9, 2) := by decide +kernel
theorem dX12_grouped_286 : decode cX12_grouped 286 = .ok (.iload 9, 2) := by decide +kernel
theorem dX12_grouped_288 : decode cX12_grouped 288 = .ok (.aload_n 0, 1) := by decide +kernel
theorem dX12_grouped_289 : decode cX12_grouped 289 = .ok (.getfield 88, 3) := by decide +kernel
theorem dX12_grouped_292 : decode cX12_grouped 292 = .ok (.iload_n 1, 1) := by decide +kernel
theorem dX12_grouped_293 : decode cX12_grouped 293 = .ok (.iaload, 1) := by decide +kernel
theorem dX12_grouped_294 : decode cX12_grouped 294 = .ok (.if_icmp .ge 49, 3) := by decide +kernel
theorem dX12_grouped_297 : decode cX12_grouped 297 = .ok (.aload_n 0, 1) := by decide +kernel
theorem dX12_grouped_298 : decode cX12_grouped 298 = .ok (.getfield 194, 3) := by decide +kernel
theorem dX12_grouped_301 : decode cX12_grouped 301 = .ok (.iload 8, 2) := by decide +kernel
theorem dX12_grouped_303 : decode cX12_grouped 303 = .ok (.iload 9, 2) := by decide +kernel
theorem dX12_grouped_305 : decode cX12_grouped 305 = .ok (.iadd, 1) := by decide +kernel
theorem dX12_grouped_306 : decode cX12_grouped 306 = .ok (.aload_n 0, 1) := by decide +kernel
theorem dX12_grouped_307 : decode cX12_grouped 307 = .ok (.aload_n 0, 1) := by decide +kernel
theorem dX12_grouped_308 : decode cX12_grouped 308 = .ok (.getfield 112, 3) := by decide +kernel
theorem dX12_grouped_311 : decode cX12_grouped 311 = .ok (.bipush 8, 2) := by decide +kernel
theorem dX12_grouped_313 : decode cX12_grouped 313 = .ok (.iload_n 1, 1) := by decide +kernel
theorem dX12_grouped_314 : decode cX12_grouped 314 = .ok (.imul, 1) := by decide +kernel
theorem dX12_grouped_315 : decode cX12_grouped 315 = .ok (.iload 9, 2) := by decide +kernel
theorem dX12_grouped_317 : decode cX12_grouped 317 = .ok (.iadd, 1) := by decide +kernel
theorem dX12_grouped_318 : decode cX12_grouped 318 = .ok (.iaload, 1) := by decide +kernel
theorem dX12_grouped_319 : decode cX12_grouped 319 = .ok (.invokevirtual 600, 3) := by decide +kernel
theorem dX12_grouped_322 : decode cX12_grouped 322 = .ok (.lastore, 1) := by decide +kernel
theorem dX12_grouped_323 : decode cX12_grouped 323 = .ok (.aload_n 0, 1) := by decide +kernel
theorem dX12_grouped_324 : decode cX12_grouped 324 = .ok (.getfield 197, 3) := by decide +kernel
theorem dX12_grouped_327 : decode cX12_grouped 327 = .ok (.iload 8, 2) := by decide +kernel
theorem dX12_grouped_329 : decode cX12_grouped 329 = .ok (.iload 9, 2) := by decide +kernel
theorem dX12_grouped_331 : decode cX12_grouped 331 = .ok (.iadd, 1) := by decide +kernel
theorem dX12_grouped_332 : decode cX12_grouped 332 = .ok (.aload_n 0, 1) := by decide +kernel
theorem dX12_grouped_333 : decode cX12_grouped 333 = .ok (.getfield 604, 3) := by decide +kernel
theorem dX12_grouped_336 : decode cX12_grouped 336 = .ok (.bastore, 1) := by decide +kernel
theorem dX12_grouped_337 : decode cX12_grouped 337 = .ok (.iinc 9 1, 3) := by decide +kernel
theorem dX12_grouped_340 : decode cX12_grouped 340 = .ok (.goto (-54), 3) := by decide +kernel
theorem dX12_grouped_343 : decode cX12_grouped 343 = .ok (.aload_n 0, 1) := by decide +kernel
theorem dX12_grouped_344 : decode cX12_grouped 344 = .ok (.iconst 0, 1) := by decide +kernel
theorem dX12_grouped_345 : decode cX12_grouped 345 = .ok (.putfield 615, 3) := by decide +kernel
theorem dX12_grouped_348 : decode cX12_grouped 348 = .ok (.iinc 7 1, 3) := by decide +kernel
theorem dX12_grouped_351 : decode cX12_grouped 351 = .ok (.goto (-135), 3) := by decide +kernel
theorem dX12_grouped_354 : decode cX12_grouped 354 = .ok (.iload 6, 2) := by decide +kernel
theorem dX12_grouped_356 : decode cX12_grouped 356 = .ok (.ireturn, 1) := by decide +kernel
def m_grouped_b343 (F : Nat) (rc216 : RS → Int32 → Int32 → Int32 → Int32 → Int32 → Int32 → Option (RS × Int32)) (cs1 : RS) (u1 : Int32) (u2 : Int32) (u4 : Int32) (u5 : Int32) (u6 : Int32) (u7 : Int32) : Option (RS × Int32) := rc216 (setF cs1 97 0) u1 u2 u4 u5 u6 (u7 + 1)
def m_grouped_L286 (F : Nat) (rc216 : RS → Int32 → Int32 → Int32 → Int32 → Int32 → Int32 → Option (RS × Int32)) : Nat → RS → Int32 → Int32 → Int32 → Int32 → Int32 → Int32 → Int32 → Int32 → Option (RS × Int32)
  | 0, _, _, _, _, _, _, _, _, _ => none
  | lf_286 + 1, cs1, u1, u2, u4, u5, u6, u7, u8, u9 => Option.bind (rdI (cs1.2.2.1 36) 60 u1) fun v_1 => if v_1 ≤ u9 then (m_grouped_b343 F rc216 cs1 u1 u2 u4 u5 u6 u7) else (Option.bind (rdI (cs1.2.2.1 44) 480 ((8 * u1) + u9)) fun v_3 => Option.bind (m_eval F 300 cs1 v_3) fun z_4 => Option.bind (wrL z_4.1 85 400000 (u8 + u9) z_4.2) fun cs_5 => Option.bind (wrI cs_5 86 400000 (u8 + u9) (vp_nar .boolean (cs_5.1 92))) fun cs_6 => (m_grouped_L286 F rc216 lf_286) cs_6 u1 u2 u4 u5 u6 u7 u8 (u9 + 1))
def m_grouped_b275 (F : Nat) (rc216 : RS → Int32 → Int32 → Int32 → Int32 → Int32 → Int32 → Option (RS × Int32)) (cs1 : RS) (u1 : Int32) (u2 : Int32) (u4 : Int32) (u5 : Int32) (u6 : Int32) (u7 : Int32) : Option (RS × Int32) := Option.bind (m_newRow F cs1 u6) fun z_7 => m_grouped_L286 F rc216 F z_7.1 u1 u2 u4 u5 u6 u7 z_7.2 0
def m_grouped_L216 (F : Nat) : Nat → RS → Int32 → Int32 → Int32 → Int32 → Int32 → Int32 → Option (RS × Int32)
  | 0, _, _, _, _, _, _, _ => none
  | lf_216 + 1, cs1, u1, u2, u4, u5, u6, u7 => if u5 ≤ u7 then (some (cs1, u6)) else (Option.bind (m_rowAt F (setF (setF cs1 95 u2) 96 u7) u4 u7) fun v_9 => Option.bind (rdI ((setF (setF (setF (setF cs1 95 u2) 96 u7) 94 v_9) 97 1).2.2.1 41) 60 u1) fun v_10 => if v_10 = (-1) then (m_grouped_b275 F (m_grouped_L216 F lf_216) (setF (setF (setF (setF cs1 95 u2) 96 u7) 94 v_9) 97 1) u1 u2 u4 u5 u6 u7) else (Option.bind (rdI ((setF (setF (setF (setF cs1 95 u2) 96 u7) 94 v_9) 97 1).2.2.1 41) 60 u1) fun v_12 => Option.bind (m_truth F 300 (setF (setF (setF (setF cs1 95 u2) 96 u7) 94 v_9) 97 1) v_12) fun z_13 => if z_13.2 = 1 then (m_grouped_b275 F (m_grouped_L216 F lf_216) z_13.1 u1 u2 u4 u5 u6 u7) else (m_grouped_b343 F (m_grouped_L216 F lf_216) z_13.1 u1 u2 u4 u5 u6 u7)))
def m_grouped_b201 (F : Nat) (cs1 : RS) (u1 : Int32) (u2 : Int32) (u4 : Int32) (u5 : Int32) : Option (RS × Int32) := Option.bind (rdI (cs1.2.2.1 36) 60 u1) fun v_15 => Option.bind (m_relation F cs1 v_15) fun z_16 => m_grouped_L216 F F z_16.1 u1 u2 u4 u5 z_16.2 0
def m_grouped_b173 (F : Nat) (rc20 : RS → Int32 → Int32 → Int32 → Int32 → Int32 → Int32 → Option (RS × Int32)) (cs1 : RS) (u1 : Int32) (u2 : Int32) (u3 : Int32) (u4 : Int32) (u5 : Int32) (u6 : Int32) (u8 : Int32) : Option (RS × Int32) := Option.bind (wrI cs1 98 600 u6 u8) fun cs_17 => rc20 cs_17 u1 u2 u3 u4 u5 (u6 + 1)
def m_grouped_b139 (F : Nat) (rc20 : RS → Int32 → Int32 → Int32 → Int32 → Int32 → Int32 → Option (RS × Int32)) (cs1 : RS) (u1 : Int32) (u2 : Int32) (u3 : Int32) (u4 : Int32) (u5 : Int32) (u6 : Int32) (u8 : Int32) : Option (RS × Int32) := if u5 ≤ u8 then (m_grouped_b173 F rc20 cs1 u1 u2 u3 u4 (u5 + 1) u6 u8) else (Option.bind (rdI ((setF cs1 87 ((cs1.1 87) - u3)).2.2.1 89) 400 u4) fun v_19 => Option.bind (wrI (setF cs1 87 ((cs1.1 87) - u3)) 89 400 u4 (v_19 - 1)) fun cs_20 => m_grouped_b173 F rc20 cs_20 u1 u2 u3 u4 u5 u6 u8)
def m_grouped_L108 (F : Nat) (rc20 : RS → Int32 → Int32 → Int32 → Int32 → Int32 → Int32 → Option (RS × Int32)) : Nat → RS → Int32 → Int32 → Int32 → Int32 → Int32 → Int32 → Int32 → Int32 → Option (RS × Int32)
  | 0, _, _, _, _, _, _, _, _, _ => none
  | lf_108 + 1, cs1, u1, u2, u3, u4, u5, u6, u7, u8 => if u5 ≤ u8 then (m_grouped_b139 F rc20 cs1 u1 u2 u3 u4 u5 u6 u8) else (Option.bind (m_rowAt F cs1 u4 u8) fun v_22 => Option.bind (m_compareRows F cs1 v_22 u7 u3) fun v_23 => if v_23 = 0 then (m_grouped_b139 F rc20 cs1 u1 u2 u3 u4 u5 u6 u8) else ((m_grouped_L108 F rc20 lf_108) cs1 u1 u2 u3 u4 u5 u6 u7 (u8 + 1)))
def m_grouped_L42 (F : Nat) (rc20 : RS → Int32 → Int32 → Int32 → Int32 → Int32 → Int32 → Option (RS × Int32)) : Nat → RS → Int32 → Int32 → Int32 → Int32 → Int32 → Int32 → Int32 → Int32 → Option (RS × Int32)
  | 0, _, _, _, _, _, _, _, _, _ => none
  | lf_42 + 1, cs1, u1, u2, u3, u4, u5, u6, u7, u8 => if u3 ≤ u8 then (m_grouped_L108 F rc20 F cs1 u1 u2 u3 u4 u5 u6 u7 0) else (Option.bind (m_rowAt F cs1 u2 u6) fun v_26 => Option.bind (rdI ((setF cs1 93 v_26).2.2.1 47) 480 ((8 * u1) + u8)) fun v_27 => Option.bind (m_eval F 300 (setF cs1 93 v_26) v_27) fun z_28 => Option.bind (wrL z_28.1 85 400000 (u7 + u8) z_28.2) fun cs_29 => Option.bind (wrI cs_29 86 400000 (u7 + u8) (vp_nar .boolean (cs_29.1 92))) fun cs_30 => (m_grouped_L42 F rc20 lf_42) cs_30 u1 u2 u3 u4 u5 u6 u7 (u8 + 1))
def m_grouped_L20 (F : Nat) : Nat → RS → Int32 → Int32 → Int32 → Int32 → Int32 → Int32 → Option (RS × Int32)
  | 0, _, _, _, _, _, _, _ => none
  | lf_20 + 1, cs1, u1, u2, u3, u4, u5, u6 => Option.bind (rdI (cs1.2.2.1 89) 400 u2) fun v_31 => if v_31 ≤ u6 then (Option.bind (rdI (cs1.2.2.1 40) 60 u1) fun v_33 => if v_33 = (-1) then (m_grouped_b201 F cs1 u1 u2 u4 1) else (m_grouped_b201 F cs1 u1 u2 u4 u5)) else (Option.bind (m_newRow F cs1 u4) fun z_35 => m_grouped_L42 F (m_grouped_L20 F lf_20) F z_35.1 u1 u2 u3 u4 u5 u6 z_35.2 0)
def m_grouped (F : Nat) (cs : RS) (x1 : Int32) (x2 : Int32) : Option (RS × Int32) := Option.bind (rdI (cs.2.2.1 39) 60 x1) fun v_36 => Option.bind (m_relation F cs v_36) fun z_37 => m_grouped_L20 F F z_37.1 x1 x2 v_36 z_37.2 0 0
set_option maxHeartbeats 4000000 in
set_option maxRecDepth 100000 in
theorem s_grouped (l : Launch) (dC : Nat → ClassId) (dI : Nat → Nat → Nat) (cB cI cJ cZ : ClassId) (h0 : Nat) (a : Nat → Nat) (K V : Nat → Nat) (fz : Value) (F : Nat) (cs : RS) (x1 : Int32) (x2 : Int32) (cs9 : RS) (r9 : Int32) (hf : m_grouped F cs x1 x2 = some (cs9, r9)) : okI l dC dI cB cI cJ cZ h0 a K V fz yX12_grouped (wsOf yX12_grouped cX12_grouped 10 (some .int)) (303) [.ref h0, .int x1, .int x2] cs cs9 r9 := by
  intro sz
  refine Met.ofW (cc := cX12_grouped) (maxL := 10) (ret := (some .int)) (by decide) rfl ?_
  intro p e s m args below meth c s₁ B hml hv
  obtain ⟨rfl, hsz, hP, hK, hD0, hZ⟩ := hv
  have hx := B.exec
  have hb := B.bytes
  have hr := B.returns
  have hts := atoms_spec (ws := (wsOf yX12_grouped cX12_grouped 10 (some .int))) B.pre
  have hown : s.vm.findClass RX12 = some m.cls := findClass_of_methodNamed B.named
  have hlocks := B.notSynchronized
  subst hsz
  have hD := hD0.self (sz := s.heap.size)
  generalize hAe : va_A (mW cB cI cJ cZ h0 a cs) s.heap.size = A at hD hZ ⊢
  have hA : ∀ q : Nat, s.heap.size ≤ q → A q := fun q h => by rw [← hAe]; exact Or.inr h
  have hS : va_S A s.heap s.heap [] := va_S.rf
  have hl := lv_entry ([.ref h0, .int x1, .int x2]) (n := 10) (Nat.le_of_ble_eq_true rfl)
  rw [lg_entry_eq]
  generalize (lg_sl ([.ref h0, .int x1, .int x2]) ++ List.replicate (10 - (lg_sl ([.ref h0, .int x1, .int x2])).length) Slot.unset).toArray = ls at hl ⊢
  have hl : lv_has ls 10 [(0, .ref h0), (1, .int x1), (2, .int x2)] := hl
  have L_216 : ∀ (lf_216 : Nat), ∀ (cs1 : RS) (u1 : Int32) (u2 : Int32) (u4 : Int32) (u5 : Int32) (u6 : Int32) (u7 : Int32), m_grouped_L216 F lf_216 cs1 u1 u2 u4 u5 u6 u7 = some (cs9, r9) → ∀ (H : Heap) (locs : List Loc) (ls : Array Slot), va_P (dC, dI) vwCl (mW cB cI cJ cZ h0 a cs1) H → va_D A (mW cB cI cJ cZ h0 a cs1) → va_S A s.heap H locs → lv_has ls 10 [(0, .ref h0), (1, .int u1), (2, .int u2), (4, .int u4), (5, .int u5), (6, .int u6), (7, .int u7)] → W p l e (headSpec (wsOf yX12_grouped cX12_grouped 10 (some .int)) ({ frames := 303, cells := 0, slots := 0, locals := 60 * (303) } : Room)).room s m ([.ref h0, .int x1, .int x2] : List Value).toArray below meth c H locs 0 0 (MQ below (va_Qi (fun (x : Int32) (_ : Unit) => x = r9) (fun _ t_ => va_P (dC, dI) vwCl (mW cB cI cJ cZ h0 a cs9) t_.heap ∧ va_D A (mW cB cI cJ cZ h0 a cs9)) A) ([.ref h0, .int x1, .int x2] : List Value).toArray s 0 0 A) (F0 m 216 ls []) := by
    intro lf_216
    induction lf_216 with
    | zero => intro cs1 u1 u2 u4 u5 u6 u7 h; cases (show (none : Option (RS × Int32)) = _ from h)
    | succ lf_216 ih_216 =>
      have B_343 : ∀ (cs1 : RS) (u1 : Int32) (u2 : Int32) (u4 : Int32) (u5 : Int32) (u6 : Int32) (u7 : Int32), m_grouped_b343 F (m_grouped_L216 F lf_216) cs1 u1 u2 u4 u5 u6 u7 = some (cs9, r9) → ∀ (H : Heap) (locs : List Loc) (ls : Array Slot), va_P (dC, dI) vwCl (mW cB cI cJ cZ h0 a cs1) H → va_D A (mW cB cI cJ cZ h0 a cs1) → va_S A s.heap H locs → lv_has ls 10 [(0, .ref h0), (1, .int u1), (2, .int u2), (4, .int u4), (5, .int u5), (6, .int u6), (7, .int u7)] → W p l e (headSpec (wsOf yX12_grouped cX12_grouped 10 (some .int)) ({ frames := 303, cells := 0, slots := 0, locals := 60 * (303) } : Room)).room s m ([.ref h0, .int x1, .int x2] : List Value).toArray below meth c H locs 0 0 (MQ below (va_Qi (fun (x : Int32) (_ : Unit) => x = r9) (fun _ t_ => va_P (dC, dI) vwCl (mW cB cI cJ cZ h0 a cs9) t_.heap ∧ va_D A (mW cB cI cJ cZ h0 a cs9)) A) ([.ref h0, .int x1, .int x2] : List Value).toArray s 0 0 A) (F0 m 343 ls []) := by
        intro cs1 u1 u2 u4 u5 u6 u7 h H locs ls hP hD hS hl
        unfold m_grouped_b343 at h
        refine lv_aload_n hx hb dX12_grouped_343 rfl (lv_at hl 0 rfl) ?_
        refine lv_iconst (v := 0) hx hb dX12_grouped_344 (by decide) ?_
        refine fp_97 hx hb hts hown hK hP hD hS (Or.inl rfl) dX12_grouped_345 (fun H locs hP hD hS => ?_)
        refine lv_iinc (v := u7 + 1) (lv' := [(7, .int (u7 + 1)), (0, .ref h0), (1, .int u1), (2, .int u2), (4, .int u4), (5, .int u5), (6, .int u6)]) hx hb dX12_grouped_348 hl (k := 6) rfl rfl (by decide) rfl (fun ls hl => ?_)
        refine lv_goto (tgt := 216) hx hb dX12_grouped_351 (by decide) ?_
        exact ih_216 (setF cs1 97 0) u1 u2 u4 u5 u6 (u7 + 1) h _ _ _ hP hD hS (lv_sub hl [1, 2, 3, 4, 5, 6, 0] rfl)
      have L_286 : ∀ (lf_286 : Nat), ∀ (cs1 : RS) (u1 : Int32) (u2 : Int32) (u4 : Int32) (u5 : Int32) (u6 : Int32) (u7 : Int32) (u8 : Int32) (u9 : Int32), m_grouped_L286 F (m_grouped_L216 F lf_216) lf_286 cs1 u1 u2 u4 u5 u6 u7 u8 u9 = some (cs9, r9) → ∀ (H : Heap) (locs : List Loc) (ls : Array Slot), va_P (dC, dI) vwCl (mW cB cI cJ cZ h0 a cs1) H → va_D A (mW cB cI cJ cZ h0 a cs1) → va_S A s.heap H locs → lv_has ls 10 [(0, .ref h0), (1, .int u1), (2, .int u2), (4, .int u4), (5, .int u5), (6, .int u6), (7, .int u7), (8, .int u8), (9, .int u9)] → W p l e (headSpec (wsOf yX12_grouped cX12_grouped 10 (some .int)) ({ frames := 303, cells := 0, slots := 0, locals := 60 * (303) } : Room)).room s m ([.ref h0, .int x1, .int x2] : List Value).toArray below meth c H locs 0 0 (MQ below (va_Qi (fun (x : Int32) (_ : Unit) => x = r9) (fun _ t_ => va_P (dC, dI) vwCl (mW cB cI cJ cZ h0 a cs9) t_.heap ∧ va_D A (mW cB cI cJ cZ h0 a cs9)) A) ([.ref h0, .int x1, .int x2] : List Value).toArray s 0 0 A) (F0 m 286 ls []) := by
        intro lf_286
        induction lf_286 with
        | zero => intro cs1 u1 u2 u4 u5 u6 u7 u8 u9 h; cases (show (none : Option (RS × Int32)) = _ from h)
        | succ lf_286 ih_286 =>
          intro cs1 u1 u2 u4 u5 u6 u7 u8 u9 h H locs ls hP hD hS hl
          rw [m_grouped_L286] at h
          refine lv_iload hx hb dX12_grouped_286 (lv_at hl 8 rfl) ?_
          refine lv_aload_n hx hb dX12_grouped_288 rfl (lv_at hl 0 rfl) ?_
          refine fg_36 hx hb hts hown hK hP dX12_grouped_289 ?_
          refine lv_iload_n hx hb dX12_grouped_292 rfl (lv_at hl 1 rfl) ?_
          obtain ⟨v_1, hv_1, h⟩ := ob h
          refine ag_36 hx hb hK hP hv_1 dX12_grouped_293 ?_
          refine lv_icmp_ge (tgt := 343) hx hb dX12_grouped_294 (by decide) (fun c_2 => ?_) (fun c_2 => ?_)
          · skip
            replace h := (if_pos c_2).symm.trans h
            exact B_343 cs1 u1 u2 u4 u5 u6 u7 h _ _ _ hP hD hS (lv_sub hl [0, 1, 2, 3, 4, 5, 6] rfl)
          · skip
            replace h := (if_neg c_2).symm.trans h
            refine lv_aload_n hx hb dX12_grouped_297 rfl (lv_at hl 0 rfl) ?_
            refine fg_85 hx hb hts hown hK hP dX12_grouped_298 ?_
            refine lv_iload hx hb dX12_grouped_301 (lv_at hl 7 rfl) ?_
            refine lv_iload hx hb dX12_grouped_303 (lv_at hl 8 rfl) ?_
            refine lv_iadd hx hb dX12_grouped_305 ?_
            refine lv_aload_n hx hb dX12_grouped_306 rfl (lv_at hl 0 rfl) ?_
            refine lv_aload_n hx hb dX12_grouped_307 rfl (lv_at hl 0 rfl) ?_
            refine fg_44 hx hb hts hown hK hP dX12_grouped_308 ?_
            refine lv_bipush (v := 8) hx hb dX12_grouped_311 (by decide) ?_
            refine lv_iload_n hx hb dX12_grouped_313 rfl (lv_at hl 1 rfl) ?_
            refine lv_imul hx hb dX12_grouped_314 ?_
            refine lv_iload hx hb dX12_grouped_315 (lv_at hl 8 rfl) ?_
            refine lv_iadd hx hb dX12_grouped_317 ?_
            obtain ⟨v_3, hv_3, h⟩ := ob h
            refine ag_44 hx hb hK hP hv_3 dX12_grouped_318 ?_
            obtain ⟨z_4, hv_4, h⟩ := ob h
            refine calL (As := [.int v_3]) hx hb hml hts hown hK hP hD hS hA hZ (s_eval l dC dI cB cI cJ cZ h0 a K V fz F 300 cs1 v_3 z_4.1 z_4.2 hv_4) (cw_eval hts (fr := 302) (Nat.le_of_ble_eq_true rfl) (Nat.le_of_ble_eq_true rfl)) rfl hl.1 (Nat.le_of_ble_eq_true rfl) ⟨Nat.zero_le _, Nat.zero_le _⟩ dX12_grouped_319 (fun H locs hP hD hS => ?_)
            obtain ⟨cs_5, hv_5, h⟩ := ob h
            refine ap_85 hx hb hK hP hD hS hv_5 dX12_grouped_322 (fun H locs hP hD hS => ?_)
            refine lv_aload_n hx hb dX12_grouped_323 rfl (lv_at hl 0 rfl) ?_
            refine fg_86 hx hb hts hown hK hP dX12_grouped_324 ?_
            refine lv_iload hx hb dX12_grouped_327 (lv_at hl 7 rfl) ?_
            refine lv_iload hx hb dX12_grouped_329 (lv_at hl 8 rfl) ?_
            refine lv_iadd hx hb dX12_grouped_331 ?_
            refine lv_aload_n hx hb dX12_grouped_332 rfl (lv_at hl 0 rfl) ?_
            refine fg_92 hx hb hts hown hK hP dX12_grouped_333 ?_
            obtain ⟨cs_6, hv_6, h⟩ := ob h
            refine ap_86 hx hb hK hP hD hS hv_6 dX12_grouped_336 (fun H locs hP hD hS => ?_)
            refine lv_iinc (v := u9 + 1) (lv' := [(9, .int (u9 + 1)), (0, .ref h0), (1, .int u1), (2, .int u2), (4, .int u4), (5, .int u5), (6, .int u6), (7, .int u7), (8, .int u8)]) hx hb dX12_grouped_337 hl (k := 8) rfl rfl (by decide) rfl (fun ls hl => ?_)
            refine lv_goto (tgt := 286) hx hb dX12_grouped_340 (by decide) ?_
            exact ih_286 cs_6 u1 u2 u4 u5 u6 u7 u8 (u9 + 1) h _ _ _ hP hD hS (lv_sub hl [1, 2, 3, 4, 5, 6, 7, 8, 0] rfl)
      have B_275 : ∀ (cs1 : RS) (u1 : Int32) (u2 : Int32) (u4 : Int32) (u5 : Int32) (u6 : Int32) (u7 : Int32), m_grouped_b275 F (m_grouped_L216 F lf_216) cs1 u1 u2 u4 u5 u6 u7 = some (cs9, r9) → ∀ (H : Heap) (locs : List Loc) (ls : Array Slot), va_P (dC, dI) vwCl (mW cB cI cJ cZ h0 a cs1) H → va_D A (mW cB cI cJ cZ h0 a cs1) → va_S A s.heap H locs → lv_has ls 10 [(0, .ref h0), (1, .int u1), (2, .int u2), (4, .int u4), (5, .int u5), (6, .int u6), (7, .int u7)] → W p l e (headSpec (wsOf yX12_grouped cX12_grouped 10 (some .int)) ({ frames := 303, cells := 0, slots := 0, locals := 60 * (303) } : Room)).room s m ([.ref h0, .int x1, .int x2] : List Value).toArray below meth c H locs 0 0 (MQ below (va_Qi (fun (x : Int32) (_ : Unit) => x = r9) (fun _ t_ => va_P (dC, dI) vwCl (mW cB cI cJ cZ h0 a cs9) t_.heap ∧ va_D A (mW cB cI cJ cZ h0 a cs9)) A) ([.ref h0, .int x1, .int x2] : List Value).toArray s 0 0 A) (F0 m 275 ls []) := by
        intro cs1 u1 u2 u4 u5 u6 u7 h H locs ls hP hD hS hl
        unfold m_grouped_b275 at h
        refine lv_aload_n hx hb dX12_grouped_275 rfl (lv_at hl 0 rfl) ?_
        refine lv_iload hx hb dX12_grouped_276 (lv_at hl 5 rfl) ?_
        obtain ⟨z_7, hv_7, h⟩ := ob h
        refine calI (As := [.int u6]) hx hb hml hts hown hK hP hD hS hA hZ (s_newRow l dC dI cB cI cJ cZ h0 a K V fz F cs1 u6 z_7.1 z_7.2 hv_7) (cw_newRow hts (fr := 0) (Nat.le_of_ble_eq_true rfl) (Nat.le_of_ble_eq_true rfl)) rfl hl.1 (Nat.le_of_ble_eq_true rfl) ⟨Nat.zero_le _, Nat.zero_le _⟩ dX12_grouped_278 (fun H locs hP hD hS => ?_)
        refine lv_istore (lv' := [(8, .int z_7.2), (0, .ref h0), (1, .int u1), (2, .int u2), (4, .int u4), (5, .int u5), (6, .int u6), (7, .int u7)]) hx hb dX12_grouped_281 hl (by decide) rfl (fun ls hl => ?_)
        refine lv_iconst (v := 0) hx hb dX12_grouped_283 (by decide) ?_
        refine lv_istore (lv' := [(9, .int 0), (8, .int z_7.2), (0, .ref h0), (1, .int u1), (2, .int u2), (4, .int u4), (5, .int u5), (6, .int u6), (7, .int u7)]) hx hb dX12_grouped_284 hl (by decide) rfl (fun ls hl => ?_)
        exact L_286 F z_7.1 u1 u2 u4 u5 u6 u7 z_7.2 0 h _ _ _ hP hD hS (lv_sub hl [2, 3, 4, 5, 6, 7, 8, 1, 0] rfl)
      intro cs1 u1 u2 u4 u5 u6 u7 h H locs ls hP hD hS hl
      rw [m_grouped_L216] at h
      refine lv_iload hx hb dX12_grouped_216 (lv_at hl 6 rfl) ?_
      refine lv_iload hx hb dX12_grouped_218 (lv_at hl 4 rfl) ?_
      refine lv_icmp_ge (tgt := 354) hx hb dX12_grouped_220 (by decide) (fun c_8 => ?_) (fun c_8 => ?_)
      · skip
        replace h := (if_pos c_8).symm.trans h
        refine lv_iload hx hb dX12_grouped_354 (lv_at hl 5 rfl) ?_
        obtain ⟨e1, e2⟩ := Prod.mk.inj (Option.some.inj h)
        rw [e1] at hP hD
        exact W.iret (v := u6) hx hb hr (fun t_ ht hW => ⟨⟨u6, (), rfl, e2, by rw [ht]; exact hP, hD⟩, hS.F ht⟩) hS.2.2 dX12_grouped_356
      · skip
        replace h := (if_neg c_8).symm.trans h
        refine lv_aload_n hx hb dX12_grouped_223 rfl (lv_at hl 0 rfl) ?_
        refine lv_iload_n hx hb dX12_grouped_224 rfl (lv_at hl 2 rfl) ?_
        refine fp_95 hx hb hts hown hK hP hD hS dX12_grouped_225 (fun H locs hP hD hS => ?_)
        refine lv_aload_n hx hb dX12_grouped_228 rfl (lv_at hl 0 rfl) ?_
        refine lv_iload hx hb dX12_grouped_229 (lv_at hl 6 rfl) ?_
        refine fp_96 hx hb hts hown hK hP hD hS dX12_grouped_231 (fun H locs hP hD hS => ?_)
        refine lv_aload_n hx hb dX12_grouped_234 rfl (lv_at hl 0 rfl) ?_
        refine lv_aload_n hx hb dX12_grouped_235 rfl (lv_at hl 0 rfl) ?_
        refine lv_iload hx hb dX12_grouped_236 (lv_at hl 3 rfl) ?_
        refine lv_iload hx hb dX12_grouped_238 (lv_at hl 6 rfl) ?_
        obtain ⟨v_9, hv_9, h⟩ := ob h
        refine calI (As := [.int u4, .int u7]) hx hb hml hts hown hK hP hD hS hA hZ (s_rowAt l dC dI cB cI cJ cZ h0 a K V fz F (setF (setF cs1 95 u2) 96 u7) u4 u7 v_9 hv_9) (cw_rowAt hts (fr := 0) (Nat.le_of_ble_eq_true rfl) (Nat.le_of_ble_eq_true rfl)) rfl hl.1 (Nat.le_of_ble_eq_true rfl) ⟨Nat.zero_le _, Nat.zero_le _⟩ dX12_grouped_240 (fun H locs hP hD hS => ?_)
        refine fp_94 hx hb hts hown hK hP hD hS dX12_grouped_243 (fun H locs hP hD hS => ?_)
        refine lv_aload_n hx hb dX12_grouped_246 rfl (lv_at hl 0 rfl) ?_
        refine lv_iconst (v := 1) hx hb dX12_grouped_247 (by decide) ?_
        refine fp_97 hx hb hts hown hK hP hD hS (Or.inr rfl) dX12_grouped_248 (fun H locs hP hD hS => ?_)
        refine lv_aload_n hx hb dX12_grouped_251 rfl (lv_at hl 0 rfl) ?_
        refine fg_41 hx hb hts hown hK hP dX12_grouped_252 ?_
        refine lv_iload_n hx hb dX12_grouped_255 rfl (lv_at hl 1 rfl) ?_
        obtain ⟨v_10, hv_10, h⟩ := ob h
        refine ag_41 hx hb hK hP hv_10 dX12_grouped_256 ?_
        refine lv_iconst (v := (-1)) hx hb dX12_grouped_257 (by decide) ?_
        refine lv_icmp_eq (tgt := 275) hx hb dX12_grouped_258 (by decide) (fun c_11 => ?_) (fun c_11 => ?_)
        · skip
          replace h := (if_pos c_11).symm.trans h
          exact B_275 (setF (setF (setF (setF cs1 95 u2) 96 u7) 94 v_9) 97 1) u1 u2 u4 u5 u6 u7 h _ _ _ hP hD hS (lv_sub hl [0, 1, 2, 3, 4, 5, 6] rfl)
        · skip
          replace h := (if_neg c_11).symm.trans h
          refine lv_aload_n hx hb dX12_grouped_261 rfl (lv_at hl 0 rfl) ?_
          refine lv_aload_n hx hb dX12_grouped_262 rfl (lv_at hl 0 rfl) ?_
          refine fg_41 hx hb hts hown hK hP dX12_grouped_263 ?_
          refine lv_iload_n hx hb dX12_grouped_266 rfl (lv_at hl 1 rfl) ?_
          obtain ⟨v_12, hv_12, h⟩ := ob h
          refine ag_41 hx hb hK hP hv_12 dX12_grouped_267 ?_
          obtain ⟨z_13, hv_13, h⟩ := ob h
          refine calI (As := [.int v_12]) hx hb hml hts hown hK hP hD hS hA hZ (s_truth l dC dI cB cI cJ cZ h0 a K V fz F 300 (setF (setF (setF (setF cs1 95 u2) 96 u7) 94 v_9) 97 1) v_12 z_13.1 z_13.2 hv_13) (cw_truth hts (fr := 302) (Nat.le_of_ble_eq_true rfl) (Nat.le_of_ble_eq_true rfl)) rfl hl.1 (Nat.le_of_ble_eq_true rfl) ⟨Nat.zero_le _, Nat.zero_le _⟩ dX12_grouped_268 (fun H locs hP hD hS => ?_)
          refine lv_iconst (v := 1) hx hb dX12_grouped_271 (by decide) ?_
          refine lv_icmp_ne (tgt := 343) hx hb dX12_grouped_272 (by decide) (fun c_14 => ?_) (fun c_14 => ?_)
          · skip
            replace h := (if_neg c_14).symm.trans h
            exact B_343 z_13.1 u1 u2 u4 u5 u6 u7 h _ _ _ hP hD hS (lv_sub hl [0, 1, 2, 3, 4, 5, 6] rfl)
          · skip
            replace h := (if_pos c_14).symm.trans h
            exact B_275 z_13.1 u1 u2 u4 u5 u6 u7 h _ _ _ hP hD hS (lv_sub hl [0, 1, 2, 3, 4, 5, 6] rfl)
  have B_201 : ∀ (cs1 : RS) (u1 : Int32) (u2 : Int32) (u4 : Int32) (u5 : Int32), m_grouped_b201 F cs1 u1 u2 u4 u5 = some (cs9, r9) → ∀ (H : Heap) (locs : List Loc) (ls : Array Slot), va_P (dC, dI) vwCl (mW cB cI cJ cZ h0 a cs1) H → va_D A (mW cB cI cJ cZ h0 a cs1) → va_S A s.heap H locs → lv_has ls 10 [(0, .ref h0), (1, .int u1), (2, .int u2), (4, .int u4), (5, .int u5)] → W p l e (headSpec (wsOf yX12_grouped cX12_grouped 10 (some .int)) ({ frames := 303, cells := 0, slots := 0, locals := 60 * (303) } : Room)).room s m ([.ref h0, .int x1, .int x2] : List Value).toArray below meth c H locs 0 0 (MQ below (va_Qi (fun (x : Int32) (_ : Unit) => x = r9) (fun _ t_ => va_P (dC, dI) vwCl (mW cB cI cJ cZ h0 a cs9) t_.heap ∧ va_D A (mW cB cI cJ cZ h0 a cs9)) A) ([.ref h0, .int x1, .int x2] : List Value).toArray s 0 0 A) (F0 m 201 ls []) := by
    intro cs1 u1 u2 u4 u5 h H locs ls hP hD hS hl
    unfold m_grouped_b201 at h
    refine lv_aload_n hx hb dX12_grouped_201 rfl (lv_at hl 0 rfl) ?_
    refine lv_aload_n hx hb dX12_grouped_202 rfl (lv_at hl 0 rfl) ?_
    refine fg_36 hx hb hts hown hK hP dX12_grouped_203 ?_
    refine lv_iload_n hx hb dX12_grouped_206 rfl (lv_at hl 1 rfl) ?_
    obtain ⟨v_15, hv_15, h⟩ := ob h
    refine ag_36 hx hb hK hP hv_15 dX12_grouped_207 ?_
    obtain ⟨z_16, hv_16, h⟩ := ob h
    refine calI (As := [.int v_15]) hx hb hml hts hown hK hP hD hS hA hZ (s_relation l dC dI cB cI cJ cZ h0 a K V fz F cs1 v_15 z_16.1 z_16.2 hv_16) (cw_relation hts (fr := 0) (Nat.le_of_ble_eq_true rfl) (Nat.le_of_ble_eq_true rfl)) rfl hl.1 (Nat.le_of_ble_eq_true rfl) ⟨Nat.zero_le _, Nat.zero_le _⟩ dX12_grouped_208 (fun H locs hP hD hS => ?_)
    refine lv_istore (lv' := [(6, .int z_16.2), (0, .ref h0), (1, .int u1), (2, .int u2), (4, .int u4), (5, .int u5)]) hx hb dX12_grouped_211 hl (by decide) rfl (fun ls hl => ?_)
    refine lv_iconst (v := 0) hx hb dX12_grouped_213 (by decide) ?_
    refine lv_istore (lv' := [(7, .int 0), (6, .int z_16.2), (0, .ref h0), (1, .int u1), (2, .int u2), (4, .int u4), (5, .int u5)]) hx hb dX12_grouped_214 hl (by decide) rfl (fun ls hl => ?_)
    exact L_216 F z_16.1 u1 u2 u4 u5 z_16.2 0 h _ _ _ hP hD hS (lv_sub hl [2, 3, 4, 5, 6, 1, 0] rfl)
  have L_20 : ∀ (lf_20 : Nat), ∀ (cs1 : RS) (u1 : Int32) (u2 : Int32) (u3 : Int32) (u4 : Int32) (u5 : Int32) (u6 : Int32), m_grouped_L20 F lf_20 cs1 u1 u2 u3 u4 u5 u6 = some (cs9, r9) → ∀ (H : Heap) (locs : List Loc) (ls : Array Slot), va_P (dC, dI) vwCl (mW cB cI cJ cZ h0 a cs1) H → va_D A (mW cB cI cJ cZ h0 a cs1) → va_S A s.heap H locs → lv_has ls 10 [(0, .ref h0), (1, .int u1), (2, .int u2), (3, .int u3), (4, .int u4), (5, .int u5), (6, .int u6)] → W p l e (headSpec (wsOf yX12_grouped cX12_grouped 10 (some .int)) ({ frames := 303, cells := 0, slots := 0, locals := 60 * (303) } : Room)).room s m ([.ref h0, .int x1, .int x2] : List Value).toArray below meth c H locs 0 0 (MQ below (va_Qi (fun (x : Int32) (_ : Unit) => x = r9) (fun _ t_ => va_P (dC, dI) vwCl (mW cB cI cJ cZ h0 a cs9) t_.heap ∧ va_D A (mW cB cI cJ cZ h0 a cs9)) A) ([.ref h0, .int x1, .int x2] : List Value).toArray s 0 0 A) (F0 m 20 ls []) := by
    intro lf_20
    induction lf_20 with
    | zero => intro cs1 u1 u2 u3 u4 u5 u6 h; cases (show (none : Option (RS × Int32)) = _ from h)
    | succ lf_20 ih_20 =>
      have B_173 : ∀ (cs1 : RS) (u1 : Int32) (u2 : Int32) (u3 : Int32) (u4 : Int32) (u5 : Int32) (u6 : Int32) (u8 : Int32), m_grouped_b173 F (m_grouped_L20 F lf_20) cs1 u1 u2 u3 u4 u5 u6 u8 = some (cs9, r9) → ∀ (H : Heap) (locs : List Loc) (ls : Array Slot), va_P (dC, dI) vwCl (mW cB cI cJ cZ h0 a cs1) H → va_D A (mW cB cI cJ cZ h0 a cs1) → va_S A s.heap H locs → lv_has ls 10 [(0, .ref h0), (1, .int u1), (2, .int u2), (3, .int u3), (4, .int u4), (5, .int u5), (6, .int u6), (8, .int u8)] → W p l e (headSpec (wsOf yX12_grouped cX12_grouped 10 (some .int)) ({ frames := 303, cells := 0, slots := 0, locals := 60 * (303) } : Room)).room s m ([.ref h0, .int x1, .int x2] : List Value).toArray below meth c H locs 0 0 (MQ below (va_Qi (fun (x : Int32) (_ : Unit) => x = r9) (fun _ t_ => va_P (dC, dI) vwCl (mW cB cI cJ cZ h0 a cs9) t_.heap ∧ va_D A (mW cB cI cJ cZ h0 a cs9)) A) ([.ref h0, .int x1, .int x2] : List Value).toArray s 0 0 A) (F0 m 173 ls []) := by
        intro cs1 u1 u2 u3 u4 u5 u6 u8 h H locs ls hP hD hS hl
        unfold m_grouped_b173 at h
        refine lv_aload_n hx hb dX12_grouped_173 rfl (lv_at hl 0 rfl) ?_
        refine fg_98 hx hb hts hown hK hP dX12_grouped_174 ?_
        refine lv_iload hx hb dX12_grouped_177 (lv_at hl 6 rfl) ?_
        refine lv_iload hx hb dX12_grouped_179 (lv_at hl 7 rfl) ?_
        obtain ⟨cs_17, hv_17, h⟩ := ob h
        refine ap_98 hx hb hK hP hD hS hv_17 dX12_grouped_181 (fun H locs hP hD hS => ?_)
        refine lv_iinc (v := u6 + 1) (lv' := [(6, .int (u6 + 1)), (0, .ref h0), (1, .int u1), (2, .int u2), (3, .int u3), (4, .int u4), (5, .int u5), (8, .int u8)]) hx hb dX12_grouped_182 hl (k := 6) rfl rfl (by decide) rfl (fun ls hl => ?_)
        refine lv_goto (tgt := 20) hx hb dX12_grouped_185 (by decide) ?_
        exact ih_20 cs_17 u1 u2 u3 u4 u5 (u6 + 1) h _ _ _ hP hD hS (lv_sub hl [1, 2, 3, 4, 5, 6, 0] rfl)
      have B_139 : ∀ (cs1 : RS) (u1 : Int32) (u2 : Int32) (u3 : Int32) (u4 : Int32) (u5 : Int32) (u6 : Int32) (u8 : Int32), m_grouped_b139 F (m_grouped_L20 F lf_20) cs1 u1 u2 u3 u4 u5 u6 u8 = some (cs9, r9) → ∀ (H : Heap) (locs : List Loc) (ls : Array Slot), va_P (dC, dI) vwCl (mW cB cI cJ cZ h0 a cs1) H → va_D A (mW cB cI cJ cZ h0 a cs1) → va_S A s.heap H locs → lv_has ls 10 [(0, .ref h0), (1, .int u1), (2, .int u2), (3, .int u3), (4, .int u4), (5, .int u5), (6, .int u6), (8, .int u8)] → W p l e (headSpec (wsOf yX12_grouped cX12_grouped 10 (some .int)) ({ frames := 303, cells := 0, slots := 0, locals := 60 * (303) } : Room)).room s m ([.ref h0, .int x1, .int x2] : List Value).toArray below meth c H locs 0 0 (MQ below (va_Qi (fun (x : Int32) (_ : Unit) => x = r9) (fun _ t_ => va_P (dC, dI) vwCl (mW cB cI cJ cZ h0 a cs9) t_.heap ∧ va_D A (mW cB cI cJ cZ h0 a cs9)) A) ([.ref h0, .int x1, .int x2] : List Value).toArray s 0 0 A) (F0 m 139 ls []) := by
        intro cs1 u1 u2 u3 u4 u5 u6 u8 h H locs ls hP hD hS hl
        unfold m_grouped_b139 at h
        refine lv_iload hx hb dX12_grouped_139 (lv_at hl 7 rfl) ?_
        refine lv_iload hx hb dX12_grouped_141 (lv_at hl 5 rfl) ?_
        refine lv_icmp_ge (tgt := 170) hx hb dX12_grouped_143 (by decide) (fun c_18 => ?_) (fun c_18 => ?_)
        · skip
          replace h := (if_pos c_18).symm.trans h
          refine lv_iinc (v := u5 + 1) (lv' := [(5, .int (u5 + 1)), (0, .ref h0), (1, .int u1), (2, .int u2), (3, .int u3), (4, .int u4), (6, .int u6), (8, .int u8)]) hx hb dX12_grouped_170 hl (k := 5) rfl rfl (by decide) rfl (fun ls hl => ?_)
          exact B_173 cs1 u1 u2 u3 u4 (u5 + 1) u6 u8 h _ _ _ hP hD hS (lv_sub hl [1, 2, 3, 4, 5, 0, 6, 7] rfl)
        · skip
          replace h := (if_neg c_18).symm.trans h
          refine lv_aload_n hx hb dX12_grouped_146 rfl (lv_at hl 0 rfl) ?_
          refine lv_dup hx hb dX12_grouped_147 rfl ?_
          refine fg_87 hx hb hts hown hK hP dX12_grouped_148 ?_
          refine lv_iload_n hx hb dX12_grouped_151 rfl (lv_at hl 3 rfl) ?_
          refine lv_isub hx hb dX12_grouped_152 ?_
          refine fp_87 hx hb hts hown hK hP hD hS dX12_grouped_153 (fun H locs hP hD hS => ?_)
          refine lv_aload_n hx hb dX12_grouped_156 rfl (lv_at hl 0 rfl) ?_
          refine fg_89 hx hb hts hown hK hP dX12_grouped_157 ?_
          refine lv_iload hx hb dX12_grouped_160 (lv_at hl 4 rfl) ?_
          refine lv_dup2_11 hx hb dX12_grouped_162 rfl rfl ?_
          obtain ⟨v_19, hv_19, h⟩ := ob h
          refine ag_89 hx hb hK hP hv_19 dX12_grouped_163 ?_
          refine lv_iconst (v := 1) hx hb dX12_grouped_164 (by decide) ?_
          refine lv_isub hx hb dX12_grouped_165 ?_
          obtain ⟨cs_20, hv_20, h⟩ := ob h
          refine ap_89 hx hb hK hP hD hS hv_20 dX12_grouped_166 (fun H locs hP hD hS => ?_)
          refine lv_goto (tgt := 173) hx hb dX12_grouped_167 (by decide) ?_
          exact B_173 cs_20 u1 u2 u3 u4 u5 u6 u8 h _ _ _ hP hD hS (lv_sub hl [0, 1, 2, 3, 4, 5, 6, 7] rfl)
      have L_108 : ∀ (lf_108 : Nat), ∀ (cs1 : RS) (u1 : Int32) (u2 : Int32) (u3 : Int32) (u4 : Int32) (u5 : Int32) (u6 : Int32) (u7 : Int32) (u8 : Int32), m_grouped_L108 F (m_grouped_L20 F lf_20) lf_108 cs1 u1 u2 u3 u4 u5 u6 u7 u8 = some (cs9, r9) → ∀ (H : Heap) (locs : List Loc) (ls : Array Slot), va_P (dC, dI) vwCl (mW cB cI cJ cZ h0 a cs1) H → va_D A (mW cB cI cJ cZ h0 a cs1) → va_S A s.heap H locs → lv_has ls 10 [(0, .ref h0), (1, .int u1), (2, .int u2), (3, .int u3), (4, .int u4), (5, .int u5), (6, .int u6), (7, .int u7), (8, .int u8)] → W p l e (headSpec (wsOf yX12_grouped cX12_grouped 10 (some .int)) ({ frames := 303, cells := 0, slots := 0, locals := 60 * (303) } : Room)).room s m ([.ref h0, .int x1, .int x2] : List Value).toArray below meth c H locs 0 0 (MQ below (va_Qi (fun (x : Int32) (_ : Unit) => x = r9) (fun _ t_ => va_P (dC, dI) vwCl (mW cB cI cJ cZ h0 a cs9) t_.heap ∧ va_D A (mW cB cI cJ cZ h0 a cs9)) A) ([.ref h0, .int x1, .int x2] : List Value).toArray s 0 0 A) (F0 m 108 ls []) := by
        intro lf_108
        induction lf_108 with
        | zero => intro cs1 u1 u2 u3 u4 u5 u6 u7 u8 h; cases (show (none : Option (RS × Int32)) = _ from h)
        | succ lf_108 ih_108 =>
          intro cs1 u1 u2 u3 u4 u5 u6 u7 u8 h H locs ls hP hD hS hl
          rw [m_grouped_L108] at h
          refine lv_iload hx hb dX12_grouped_108 (lv_at hl 8 rfl) ?_
          refine lv_iload hx hb dX12_grouped_110 (lv_at hl 5 rfl) ?_
          refine lv_icmp_ge (tgt := 139) hx hb dX12_grouped_112 (by decide) (fun c_21 => ?_) (fun c_21 => ?_)
          · skip
            replace h := (if_pos c_21).symm.trans h
            exact B_139 cs1 u1 u2 u3 u4 u5 u6 u8 h _ _ _ hP hD hS (lv_sub hl [0, 1, 2, 3, 4, 5, 6, 8] rfl)
          · skip
            replace h := (if_neg c_21).symm.trans h
            refine lv_aload_n hx hb dX12_grouped_115 rfl (lv_at hl 0 rfl) ?_
            refine lv_aload_n hx hb dX12_grouped_116 rfl (lv_at hl 0 rfl) ?_
            refine lv_iload hx hb dX12_grouped_117 (lv_at hl 4 rfl) ?_
            refine lv_iload hx hb dX12_grouped_119 (lv_at hl 8 rfl) ?_
            obtain ⟨v_22, hv_22, h⟩ := ob h
            refine calI (As := [.int u4, .int u8]) hx hb hml hts hown hK hP hD hS hA hZ (s_rowAt l dC dI cB cI cJ cZ h0 a K V fz F cs1 u4 u8 v_22 hv_22) (cw_rowAt hts (fr := 0) (Nat.le_of_ble_eq_true rfl) (Nat.le_of_ble_eq_true rfl)) rfl hl.1 (Nat.le_of_ble_eq_true rfl) ⟨Nat.zero_le _, Nat.zero_le _⟩ dX12_grouped_121 (fun H locs hP hD hS => ?_)
            refine lv_iload hx hb dX12_grouped_124 (lv_at hl 7 rfl) ?_
            refine lv_iload_n hx hb dX12_grouped_126 rfl (lv_at hl 3 rfl) ?_
            obtain ⟨v_23, hv_23, h⟩ := ob h
            refine calI (As := [.int v_22, .int u7, .int u3]) hx hb hml hts hown hK hP hD hS hA hZ (s_compareRows l dC dI cB cI cJ cZ h0 a K V fz F cs1 v_22 u7 u3 v_23 hv_23) (cw_compareRows hts (fr := 1) (Nat.le_of_ble_eq_true rfl) (Nat.le_of_ble_eq_true rfl)) rfl hl.1 (Nat.le_of_ble_eq_true rfl) ⟨Nat.zero_le _, Nat.zero_le _⟩ dX12_grouped_127 (fun H locs hP hD hS => ?_)
            refine lv_if_eq (tgt := 139) hx hb dX12_grouped_130 (by decide) (fun c_24 => ?_) (fun c_24 => ?_)
            · skip
              replace h := (if_pos c_24).symm.trans h
              exact B_139 cs1 u1 u2 u3 u4 u5 u6 u8 h _ _ _ hP hD hS (lv_sub hl [0, 1, 2, 3, 4, 5, 6, 8] rfl)
            · skip
              replace h := (if_neg c_24).symm.trans h
              refine lv_iinc (v := u8 + 1) (lv' := [(8, .int (u8 + 1)), (0, .ref h0), (1, .int u1), (2, .int u2), (3, .int u3), (4, .int u4), (5, .int u5), (6, .int u6), (7, .int u7)]) hx hb dX12_grouped_133 hl (k := 8) rfl rfl (by decide) rfl (fun ls hl => ?_)
              refine lv_goto (tgt := 108) hx hb dX12_grouped_136 (by decide) ?_
              exact ih_108 cs1 u1 u2 u3 u4 u5 u6 u7 (u8 + 1) h _ _ _ hP hD hS (lv_sub hl [1, 2, 3, 4, 5, 6, 7, 8, 0] rfl)
      have L_42 : ∀ (lf_42 : Nat), ∀ (cs1 : RS) (u1 : Int32) (u2 : Int32) (u3 : Int32) (u4 : Int32) (u5 : Int32) (u6 : Int32) (u7 : Int32) (u8 : Int32), m_grouped_L42 F (m_grouped_L20 F lf_20) lf_42 cs1 u1 u2 u3 u4 u5 u6 u7 u8 = some (cs9, r9) → ∀ (H : Heap) (locs : List Loc) (ls : Array Slot), va_P (dC, dI) vwCl (mW cB cI cJ cZ h0 a cs1) H → va_D A (mW cB cI cJ cZ h0 a cs1) → va_S A s.heap H locs → lv_has ls 10 [(0, .ref h0), (1, .int u1), (2, .int u2), (3, .int u3), (4, .int u4), (5, .int u5), (6, .int u6), (7, .int u7), (8, .int u8)] → W p l e (headSpec (wsOf yX12_grouped cX12_grouped 10 (some .int)) ({ frames := 303, cells := 0, slots := 0, locals := 60 * (303) } : Room)).room s m ([.ref h0, .int x1, .int x2] : List Value).toArray below meth c H locs 0 0 (MQ below (va_Qi (fun (x : Int32) (_ : Unit) => x = r9) (fun _ t_ => va_P (dC, dI) vwCl (mW cB cI cJ cZ h0 a cs9) t_.heap ∧ va_D A (mW cB cI cJ cZ h0 a cs9)) A) ([.ref h0, .int x1, .int x2] : List Value).toArray s 0 0 A) (F0 m 42 ls []) := by
        intro lf_42
        induction lf_42 with
        | zero => intro cs1 u1 u2 u3 u4 u5 u6 u7 u8 h; cases (show (none : Option (RS × Int32)) = _ from h)
        | succ lf_42 ih_42 =>
          intro cs1 u1 u2 u3 u4 u5 u6 u7 u8 h H locs ls hP hD hS hl
          rw [m_grouped_L42] at h
          refine lv_iload hx hb dX12_grouped_42 (lv_at hl 8 rfl) ?_
          refine lv_iload_n hx hb dX12_grouped_44 rfl (lv_at hl 3 rfl) ?_
          refine lv_icmp_ge (tgt := 105) hx hb dX12_grouped_45 (by decide) (fun c_25 => ?_) (fun c_25 => ?_)
          · skip
            replace h := (if_pos c_25).symm.trans h
            refine lv_iconst (v := 0) hx hb dX12_grouped_105 (by decide) ?_
            refine lv_istore (lv' := [(8, .int 0), (0, .ref h0), (1, .int u1), (2, .int u2), (3, .int u3), (4, .int u4), (5, .int u5), (6, .int u6), (7, .int u7)]) hx hb dX12_grouped_106 hl (by decide) rfl (fun ls hl => ?_)
            exact L_108 F cs1 u1 u2 u3 u4 u5 u6 u7 0 h _ _ _ hP hD hS (lv_sub hl [1, 2, 3, 4, 5, 6, 7, 8, 0] rfl)
          · skip
            replace h := (if_neg c_25).symm.trans h
            refine lv_aload_n hx hb dX12_grouped_48 rfl (lv_at hl 0 rfl) ?_
            refine lv_aload_n hx hb dX12_grouped_49 rfl (lv_at hl 0 rfl) ?_
            refine lv_iload_n hx hb dX12_grouped_50 rfl (lv_at hl 2 rfl) ?_
            refine lv_iload hx hb dX12_grouped_51 (lv_at hl 6 rfl) ?_
            obtain ⟨v_26, hv_26, h⟩ := ob h
            refine calI (As := [.int u2, .int u6]) hx hb hml hts hown hK hP hD hS hA hZ (s_rowAt l dC dI cB cI cJ cZ h0 a K V fz F cs1 u2 u6 v_26 hv_26) (cw_rowAt hts (fr := 0) (Nat.le_of_ble_eq_true rfl) (Nat.le_of_ble_eq_true rfl)) rfl hl.1 (Nat.le_of_ble_eq_true rfl) ⟨Nat.zero_le _, Nat.zero_le _⟩ dX12_grouped_53 (fun H locs hP hD hS => ?_)
            refine fp_93 hx hb hts hown hK hP hD hS dX12_grouped_56 (fun H locs hP hD hS => ?_)
            refine lv_aload_n hx hb dX12_grouped_59 rfl (lv_at hl 0 rfl) ?_
            refine fg_85 hx hb hts hown hK hP dX12_grouped_60 ?_
            refine lv_iload hx hb dX12_grouped_63 (lv_at hl 7 rfl) ?_
            refine lv_iload hx hb dX12_grouped_65 (lv_at hl 8 rfl) ?_
            refine lv_iadd hx hb dX12_grouped_67 ?_
            refine lv_aload_n hx hb dX12_grouped_68 rfl (lv_at hl 0 rfl) ?_
            refine lv_aload_n hx hb dX12_grouped_69 rfl (lv_at hl 0 rfl) ?_
            refine fg_47 hx hb hts hown hK hP dX12_grouped_70 ?_
            refine lv_bipush (v := 8) hx hb dX12_grouped_73 (by decide) ?_
            refine lv_iload_n hx hb dX12_grouped_75 rfl (lv_at hl 1 rfl) ?_
            refine lv_imul hx hb dX12_grouped_76 ?_
            refine lv_iload hx hb dX12_grouped_77 (lv_at hl 8 rfl) ?_
            refine lv_iadd hx hb dX12_grouped_79 ?_
            obtain ⟨v_27, hv_27, h⟩ := ob h
            refine ag_47 hx hb hK hP hv_27 dX12_grouped_80 ?_
            obtain ⟨z_28, hv_28, h⟩ := ob h
            refine calL (As := [.int v_27]) hx hb hml hts hown hK hP hD hS hA hZ (s_eval l dC dI cB cI cJ cZ h0 a K V fz F 300 (setF cs1 93 v_26) v_27 z_28.1 z_28.2 hv_28) (cw_eval hts (fr := 302) (Nat.le_of_ble_eq_true rfl) (Nat.le_of_ble_eq_true rfl)) rfl hl.1 (Nat.le_of_ble_eq_true rfl) ⟨Nat.zero_le _, Nat.zero_le _⟩ dX12_grouped_81 (fun H locs hP hD hS => ?_)
            obtain ⟨cs_29, hv_29, h⟩ := ob h
            refine ap_85 hx hb hK hP hD hS hv_29 dX12_grouped_84 (fun H locs hP hD hS => ?_)
            refine lv_aload_n hx hb dX12_grouped_85 rfl (lv_at hl 0 rfl) ?_
            refine fg_86 hx hb hts hown hK hP dX12_grouped_86 ?_
            refine lv_iload hx hb dX12_grouped_89 (lv_at hl 7 rfl) ?_
            refine lv_iload hx hb dX12_grouped_91 (lv_at hl 8 rfl) ?_
            refine lv_iadd hx hb dX12_grouped_93 ?_
            refine lv_aload_n hx hb dX12_grouped_94 rfl (lv_at hl 0 rfl) ?_
            refine fg_92 hx hb hts hown hK hP dX12_grouped_95 ?_
            obtain ⟨cs_30, hv_30, h⟩ := ob h
            refine ap_86 hx hb hK hP hD hS hv_30 dX12_grouped_98 (fun H locs hP hD hS => ?_)
            refine lv_iinc (v := u8 + 1) (lv' := [(8, .int (u8 + 1)), (0, .ref h0), (1, .int u1), (2, .int u2), (3, .int u3), (4, .int u4), (5, .int u5), (6, .int u6), (7, .int u7)]) hx hb dX12_grouped_99 hl (k := 8) rfl rfl (by decide) rfl (fun ls hl => ?_)
            refine lv_goto (tgt := 42) hx hb dX12_grouped_102 (by decide) ?_
            exact ih_42 cs_30 u1 u2 u3 u4 u5 u6 u7 (u8 + 1) h _ _ _ hP hD hS (lv_sub hl [1, 2, 3, 4, 5, 6, 7, 8, 0] rfl)
      intro cs1 u1 u2 u3 u4 u5 u6 h H locs ls hP hD hS hl
      rw [m_grouped_L20] at h
      refine lv_iload hx hb dX12_grouped_20 (lv_at hl 6 rfl) ?_
      refine lv_aload_n hx hb dX12_grouped_22 rfl (lv_at hl 0 rfl) ?_
      refine fg_89 hx hb hts hown hK hP dX12_grouped_23 ?_
      refine lv_iload_n hx hb dX12_grouped_26 rfl (lv_at hl 2 rfl) ?_
      obtain ⟨v_31, hv_31, h⟩ := ob h
      refine ag_89 hx hb hK hP hv_31 dX12_grouped_27 ?_
      refine lv_icmp_ge (tgt := 188) hx hb dX12_grouped_28 (by decide) (fun c_32 => ?_) (fun c_32 => ?_)
      · skip
        replace h := (if_pos c_32).symm.trans h
        refine lv_aload_n hx hb dX12_grouped_188 rfl (lv_at hl 0 rfl) ?_
        refine fg_40 hx hb hts hown hK hP dX12_grouped_189 ?_
        refine lv_iload_n hx hb dX12_grouped_192 rfl (lv_at hl 1 rfl) ?_
        obtain ⟨v_33, hv_33, h⟩ := ob h
        refine ag_40 hx hb hK hP hv_33 dX12_grouped_193 ?_
        refine lv_iconst (v := (-1)) hx hb dX12_grouped_194 (by decide) ?_
        refine lv_icmp_ne (tgt := 201) hx hb dX12_grouped_195 (by decide) (fun c_34 => ?_) (fun c_34 => ?_)
        · skip
          replace h := (if_neg c_34).symm.trans h
          exact B_201 cs1 u1 u2 u4 u5 h _ _ _ hP hD hS (lv_sub hl [0, 1, 2, 4, 5] rfl)
        · skip
          replace h := (if_pos c_34).symm.trans h
          refine lv_iconst (v := 1) hx hb dX12_grouped_198 (by decide) ?_
          refine lv_istore (lv' := [(5, .int 1), (0, .ref h0), (1, .int u1), (2, .int u2), (3, .int u3), (4, .int u4), (6, .int u6)]) hx hb dX12_grouped_199 hl (by decide) rfl (fun ls hl => ?_)
          exact B_201 cs1 u1 u2 u4 1 h _ _ _ hP hD hS (lv_sub hl [1, 2, 3, 5, 0] rfl)
      · skip
        replace h := (if_neg c_32).symm.trans h
        refine lv_aload_n hx hb dX12_grouped_31 rfl (lv_at hl 0 rfl) ?_
        refine lv_iload hx hb dX12_grouped_32 (lv_at hl 4 rfl) ?_
        obtain ⟨z_35, hv_35, h⟩ := ob h
        refine calI (As := [.int u4]) hx hb hml hts hown hK hP hD hS hA hZ (s_newRow l dC dI cB cI cJ cZ h0 a K V fz F cs1 u4 z_35.1 z_35.2 hv_35) (cw_newRow hts (fr := 0) (Nat.le_of_ble_eq_true rfl) (Nat.le_of_ble_eq_true rfl)) rfl hl.1 (Nat.le_of_ble_eq_true rfl) ⟨Nat.zero_le _, Nat.zero_le _⟩ dX12_grouped_34 (fun H locs hP hD hS => ?_)
        refine lv_istore (lv' := [(7, .int z_35.2), (0, .ref h0), (1, .int u1), (2, .int u2), (3, .int u3), (4, .int u4), (5, .int u5), (6, .int u6)]) hx hb dX12_grouped_37 hl (by decide) rfl (fun ls hl => ?_)
        refine lv_iconst (v := 0) hx hb dX12_grouped_39 (by decide) ?_
        refine lv_istore (lv' := [(8, .int 0), (7, .int z_35.2), (0, .ref h0), (1, .int u1), (2, .int u2), (3, .int u3), (4, .int u4), (5, .int u5), (6, .int u6)]) hx hb dX12_grouped_40 hl (by decide) rfl (fun ls hl => ?_)
        exact L_42 F z_35.1 u1 u2 u3 u4 u5 u6 z_35.2 0 h _ _ _ hP hD hS (lv_sub hl [2, 3, 4, 5, 6, 7, 8, 1, 0] rfl)
  have h := hf
  unfold m_grouped at h
  refine lv_aload_n hx hb dX12_grouped_0 rfl (lv_at hl 0 rfl) ?_
  refine fg_39 hx hb hts hown hK hP dX12_grouped_1 ?_
  refine lv_iload_n hx hb dX12_grouped_4 rfl (lv_at hl 1 rfl) ?_
  obtain ⟨v_36, hv_36, h⟩ := ob h
  refine ag_39 hx hb hK hP hv_36 dX12_grouped_5 ?_
  refine lv_istore_n (lv' := [(3, .int v_36), (0, .ref h0), (1, .int x1), (2, .int x2)]) hx hb dX12_grouped_6 rfl hl (by decide) rfl (fun ls hl => ?_)
  refine lv_aload_n hx hb dX12_grouped_7 rfl (lv_at hl 1 rfl) ?_
  refine lv_iload_n hx hb dX12_grouped_8 rfl (lv_at hl 0 rfl) ?_
  obtain ⟨z_37, hv_37, h⟩ := ob h
  refine calI (As := [.int v_36]) hx hb hml hts hown hK hP hD hS hA hZ (s_relation l dC dI cB cI cJ cZ h0 a K V fz F cs v_36 z_37.1 z_37.2 hv_37) (cw_relation hts (fr := 0) (Nat.le_of_ble_eq_true rfl) (Nat.le_of_ble_eq_true rfl)) rfl hl.1 (Nat.le_of_ble_eq_true rfl) ⟨Nat.zero_le _, Nat.zero_le _⟩ dX12_grouped_9 (fun H locs hP hD hS => ?_)
  refine lv_istore (lv' := [(4, .int z_37.2), (3, .int v_36), (0, .ref h0), (1, .int x1), (2, .int x2)]) hx hb dX12_grouped_12 hl (by decide) rfl (fun ls hl => ?_)
  refine lv_iconst (v := 0) hx hb dX12_grouped_14 (by decide) ?_
  refine lv_istore (lv' := [(5, .int 0), (4, .int z_37.2), (3, .int v_36), (0, .ref h0), (1, .int x1), (2, .int x2)]) hx hb dX12_grouped_15 hl (by decide) rfl (fun ls hl => ?_)
  refine lv_iconst (v := 0) hx hb dX12_grouped_17 (by decide) ?_
  refine lv_istore (lv' := [(6, .int 0), (5, .int 0), (4, .int z_37.2), (3, .int v_36), (0, .ref h0), (1, .int x1), (2, .int x2)]) hx hb dX12_grouped_18 hl (by decide) rfl (fun ls hl => ?_)
  exact L_20 F z_37.1 x1 x2 v_36 z_37.2 0 0 h _ _ _ hP hD hS (lv_sub hl [4, 5, 6, 3, 2, 1, 0] rfl)
theorem cw_grouped {R : Room} {s : State} {args : Array Value} {y0 : MethodName} {c0 : ByteArray} {n0 : Nat} {r0 : Option FieldType} (hts : ∀ w ∈ wsOf y0 c0 n0 r0, w.before args s = true) {fr : Nat} (h1 : fr + 1 ≤ R.frames) (h2 : 8 + (10 + 11) + 60 * fr ≤ R.locals) : CallW R s args RX12 RX12 684 yX12_grouped cX12_grouped 10 (some .int) (wsOf yX12_grouped cX12_grouped 10 (some .int)) ({ frames := fr, cells := 0, slots := 0, locals := 60 * fr } : Room) 0 0 2 := cwV 2 hts (gd_all (in_V kw_2161 kw_2163 kw_120 kw_191 kc_X12_grouped)) rfl rfl rfl (by decide +kernel) ⟨h1, h2⟩
theorem dX12_plain_0 : decode cX12_plain 0 = .ok (.aload_n 0, 1) := by decide +kernel
theorem dX12_plain_1 : decode cX12_plain 1 = .ok (.aload_n 0, 1) := by decide +kernel
theorem dX12_plain_2 : decode cX12_plain 2 = .ok (.getfield 88, 3) := by decide +kernel
theorem dX12_plain_5 : decode cX12_plain 5 = .ok (.iload_n 1, 1) := by decide +kernel
theorem dX12_plain_6 : decode cX12_plain 6 = .ok (.iaload, 1) := by decide +kernel
theorem dX12_plain_7 : decode cX12_plain 7 = .ok (.invokevirtual 662, 3) := by decide +kernel
theorem dX12_plain_10 : decode cX12_plain 10 = .ok (.istore_n 3, 1) := by decide +kernel
theorem dX12_plain_11 : decode cX12_plain 11 = .ok (.iconst 0, 1) := by decide +kernel
theorem dX12_plain_12 : decode cX12_plain 12 = .ok (.istore 4, 2) := by decide +kernel
theorem dX12_plain_14 : decode cX12_plain 14 = .ok (.iload 4, 2) := by decide +kernel
theorem dX12_plain_16 : decode cX12_plain 16 = .ok (.aload_n 0, 1) := by decide +kernel
theorem dX12_plain_17 : decode cX12_plain 17 = .ok (.getfield 203, 3) := by decide +kernel
theorem dX12_plain_20 : decode cX12_plain 20 = .ok (.iload_n 2, 1) := by decide +kernel
theorem dX12_plain_21 : decode cX12_plain 21 = .ok (.iaload, 1) := by decide +kernel
theorem dX12_plain_22 : decode cX12_plain 22 = .ok (.if_icmp .ge 87, 3) := by decide +kernel
theorem dX12_plain_25 : decode cX12_plain 25 = .ok (.aload_n 0, 1) := by decide +kernel
theorem dX12_plain_26 : decode cX12_plain 26 = .ok (.iload_n 3, 1) := by decide +kernel
theorem dX12_plain_27 : decode cX12_plain 27 = .ok (.invokevirtual 668, 3) := by decide +kernel
theorem dX12_plain_30 : decode cX12_plain 30 = .ok (.istore 5, 2) := by decide +kernel
theorem dX12_plain_32 : decode cX12_plain 32 = .ok (.iconst 0, 1) := by decide +kernel
theorem dX12_plain_33 : decode cX12_plain 33 = .ok (.istore 6, 2) := by decide +kernel
theorem dX12_plain_35 : decode cX12_plain 35 = .ok (.iload 6, 2) := by decide +kernel
theorem dX12_plain_37 : decode cX12_plain 37 = .ok (.aload_n 0, 1) := by decide +kernel
theorem dX12_plain_38 : decode cX12_plain 38 = .ok (.getfield 88, 3) := by decide +kernel
theorem dX12_plain_41 : decode cX12_plain 41 = .ok (.iload_n 1, 1) := by decide +kernel
theorem dX12_plain_42 : decode cX12_plain 42 = .ok (.iaload, 1) := by decide +kernel
theorem dX12_plain_43 : decode cX12_plain 43 = .ok (.if_icmp .ge 60, 3) := by decide +kernel
theorem dX12_plain_46 : decode cX12_plain 46 = .ok (.aload_n 0, 1) := by decide +kernel
theorem dX12_plain_47 : decode cX12_plain 47 = .ok (.aload_n 0, 1) := by decide +kernel
theorem dX12_plain_48 : decode cX12_plain 48 = .ok (.iload_n 2, 1) := by decide +kernel
theorem dX12_plain_49 : decode cX12_plain 49 = .ok (.iload 4, 2) := by decide +kernel
theorem dX12_plain_51 : decode cX12_plain 51 = .ok (.invokevirtual 653, 3) := by decide +kernel
theorem dX12_plain_54 : decode cX12_plain 54 = .ok (.putfield 621, 3) := by decide +kernel
theorem dX12_plain_57 : decode cX12_plain 57 = .ok (.aload_n 0, 1) := by decide +kernel
theorem dX12_plain_58 : decode cX12_plain 58 = .ok (.getfield 194, 3) := by decide +kernel
theorem dX12_plain_61 : decode cX12_plain 61 = .ok (.iload 5, 2) := by decide +kernel
theorem dX12_plain_63 : decode cX12_plain 63 = .ok (.iload 6, 2) := by decide +kernel
theorem dX12_plain_65 : decode cX12_plain 65 = .ok (.iadd, 1) := by decide +kernel
theorem dX12_plain_66 : decode cX12_plain 66 = .ok (.aload_n 0, 1) := by decide +kernel
theorem dX12_plain_67 : decode cX12_plain 67 = .ok (.aload_n 0, 1) := by decide +kernel
theorem dX12_plain_68 : decode cX12_plain 68 = .ok (.getfield 112, 3) := by decide +kernel
theorem dX12_plain_71 : decode cX12_plain 71 = .ok (.bipush 8, 2) := by decide +kernel
theorem dX12_plain_73 : decode cX12_plain 73 = .ok (.iload_n 1, 1) := by decide +kernel
theorem dX12_plain_74 : decode cX12_plain 74 = .ok (.imul, 1) := by decide +kernel
theorem dX12_plain_75 : decode cX12_plain 75 = .ok (.iload 6, 2) := by decide +kernel
theorem dX12_plain_77 : decode cX12_plain 77 = .ok (.iadd, 1) := by decide +kernel
theorem dX12_plain_78 : decode cX12_plain 78 = .ok (.iaload, 1) := by decide +kernel
theorem dX12_plain_79 : decode cX12_plain 79 = .ok (.invokevirtual 600, 3) := by decide +kernel
theorem dX12_plain_82 : decode cX12_plain 82 = .ok (.lastore, 1) := by decide +kernel
theorem dX12_plain_83 : decode cX12_plain 83 = .ok (.aload_n 0, 1) := by decide +kernel
theorem dX12_plain_84 : decode cX12_plain 84 = .ok (.getfield 197, 3) := by decide +kernel
theorem dX12_plain_87 : decode cX12_plain 87 = .ok (.iload 5, 2) := by decide +kernel
theorem dX12_plain_89 : decode cX12_plain 89 = .ok (.iload 6, 2) := by decide +kernel
theorem dX12_plain_91 : decode cX12_plain 91 = .ok (.iadd, 1) := by decide +kernel
theorem dX12_plain_92 : decode cX12_plain 92 = .ok (.aload_n 0, 1) := by decide +kernel
theorem dX12_plain_93 : decode cX12_plain 93 = .ok (.getfield 604, 3) := by decide +kernel
theorem dX12_plain_96 : decode cX12_plain 96 = .ok (.bastore, 1) := by decide +kernel
theorem dX12_plain_97 : decode cX12_plain 97 = .ok (.iinc 6 1, 3) := by decide +kernel
theorem dX12_plain_100 : decode cX12_plain 100 = .ok (.goto (-65), 3) := by decide +kernel
theorem dX12_plain_103 : decode cX12_plain 103 = .ok (.iinc 4 1, 3) := by decide +kernel
theorem dX12_plain_106 : decode cX12_plain 106 = .ok (.goto (-92), 3) := by decide +kernel
theorem dX12_plain_109 : decode cX12_plain 109 = .ok (.iload_n 3, 1) := by decide +kernel
theorem dX12_plain_110 : decode cX12_plain 110 = .ok (.ireturn, 1) := by decide +kernel
def m_plain_L35 (F : Nat) (rc14 : RS → Int32 → Int32 → Int32 → Int32 → Option (RS × Int32)) : Nat → RS → Int32 → Int32 → Int32 → Int32 → Int32 → Int32 → Option (RS × Int32)
  | 0, _, _, _, _, _, _, _ => none
  | lf_35 + 1, cs1, u1, u2, u3, u4, u5, u6 => Option.bind (rdI (cs1.2.2.1 36) 60 u1) fun v_1 => if v_1 ≤ u6 then (rc14 cs1 u1 u2 u3 (u4 + 1)) else (Option.bind (m_rowAt F cs1 u2 u4) fun v_3 => Option.bind (rdI ((setF cs1 93 v_3).2.2.1 44) 480 ((8 * u1) + u6)) fun v_4 => Option.bind (m_eval F 300 (setF cs1 93 v_3) v_4) fun z_5 => Option.bind (wrL z_5.1 85 400000 (u5 + u6) z_5.2) fun cs_6 => Option.bind (wrI cs_6 86 400000 (u5 + u6) (vp_nar .boolean (cs_6.1 92))) fun cs_7 => (m_plain_L35 F rc14 lf_35) cs_7 u1 u2 u3 u4 u5 (u6 + 1))
def m_plain_L14 (F : Nat) : Nat → RS → Int32 → Int32 → Int32 → Int32 → Option (RS × Int32)
  | 0, _, _, _, _, _ => none
  | lf_14 + 1, cs1, u1, u2, u3, u4 => Option.bind (rdI (cs1.2.2.1 89) 400 u2) fun v_8 => if v_8 ≤ u4 then (some (cs1, u3)) else (Option.bind (m_newRow F cs1 u3) fun z_10 => m_plain_L35 F (m_plain_L14 F lf_14) F z_10.1 u1 u2 u3 u4 z_10.2 0)
def m_plain (F : Nat) (cs : RS) (x1 : Int32) (x2 : Int32) : Option (RS × Int32) := Option.bind (rdI (cs.2.2.1 36) 60 x1) fun v_11 => Option.bind (m_relation F cs v_11) fun z_12 => m_plain_L14 F F z_12.1 x1 x2 z_12.2 0
set_option maxHeartbeats 4000000 in
set_option maxRecDepth 100000 in
theorem s_plain (l : Launch) (dC : Nat → ClassId) (dI : Nat → Nat → Nat) (cB cI cJ cZ : ClassId) (h0 : Nat) (a : Nat → Nat) (K V : Nat → Nat) (fz : Value) (F : Nat) (cs : RS) (x1 : Int32) (x2 : Int32) (cs9 : RS) (r9 : Int32) (hf : m_plain F cs x1 x2 = some (cs9, r9)) : okI l dC dI cB cI cJ cZ h0 a K V fz yX12_plain (wsOf yX12_plain cX12_plain 7 (some .int)) (303) [.ref h0, .int x1, .int x2] cs cs9 r9 := by
  intro sz
  refine Met.ofW (cc := cX12_plain) (maxL := 7) (ret := (some .int)) (by decide) rfl ?_
  intro p e s m args below meth c s₁ B hml hv
  obtain ⟨rfl, hsz, hP, hK, hD0, hZ⟩ := hv
  have hx := B.exec
  have hb := B.bytes
  have hr := B.returns
  have hts := atoms_spec (ws := (wsOf yX12_plain cX12_plain 7 (some .int))) B.pre
  have hown : s.vm.findClass RX12 = some m.cls := findClass_of_methodNamed B.named
  have hlocks := B.notSynchronized
  subst hsz
  have hD := hD0.self (sz := s.heap.size)
  generalize hAe : va_A (mW cB cI cJ cZ h0 a cs) s.heap.size = A at hD hZ ⊢
  have hA : ∀ q : Nat, s.heap.size ≤ q → A q := fun q h => by rw [← hAe]; exact Or.inr h
  have hS : va_S A s.heap s.heap [] := va_S.rf
  have hl := lv_entry ([.ref h0, .int x1, .int x2]) (n := 7) (Nat.le_of_ble_eq_true rfl)
  rw [lg_entry_eq]
  generalize (lg_sl ([.ref h0, .int x1, .int x2]) ++ List.replicate (7 - (lg_sl ([.ref h0, .int x1, .int x2])).length) Slot.unset).toArray = ls at hl ⊢
  have hl : lv_has ls 7 [(0, .ref h0), (1, .int x1), (2, .int x2)] := hl
  have L_14 : ∀ (lf_14 : Nat), ∀ (cs1 : RS) (u1 : Int32) (u2 : Int32) (u3 : Int32) (u4 : Int32), m_plain_L14 F lf_14 cs1 u1 u2 u3 u4 = some (cs9, r9) → ∀ (H : Heap) (locs : List Loc) (ls : Array Slot), va_P (dC, dI) vwCl (mW cB cI cJ cZ h0 a cs1) H → va_D A (mW cB cI cJ cZ h0 a cs1) → va_S A s.heap H locs → lv_has ls 7 [(0, .ref h0), (1, .int u1), (2, .int u2), (3, .int u3), (4, .int u4)] → W p l e (headSpec (wsOf yX12_plain cX12_plain 7 (some .int)) ({ frames := 303, cells := 0, slots := 0, locals := 60 * (303) } : Room)).room s m ([.ref h0, .int x1, .int x2] : List Value).toArray below meth c H locs 0 0 (MQ below (va_Qi (fun (x : Int32) (_ : Unit) => x = r9) (fun _ t_ => va_P (dC, dI) vwCl (mW cB cI cJ cZ h0 a cs9) t_.heap ∧ va_D A (mW cB cI cJ cZ h0 a cs9)) A) ([.ref h0, .int x1, .int x2] : List Value).toArray s 0 0 A) (F0 m 14 ls []) := by
    intro lf_14
    induction lf_14 with
    | zero => intro cs1 u1 u2 u3 u4 h; cases (show (none : Option (RS × Int32)) = _ from h)
    | succ lf_14 ih_14 =>
      have L_35 : ∀ (lf_35 : Nat), ∀ (cs1 : RS) (u1 : Int32) (u2 : Int32) (u3 : Int32) (u4 : Int32) (u5 : Int32) (u6 : Int32), m_plain_L35 F (m_plain_L14 F lf_14) lf_35 cs1 u1 u2 u3 u4 u5 u6 = some (cs9, r9) → ∀ (H : Heap) (locs : List Loc) (ls : Array Slot), va_P (dC, dI) vwCl (mW cB cI cJ cZ h0 a cs1) H → va_D A (mW cB cI cJ cZ h0 a cs1) → va_S A s.heap H locs → lv_has ls 7 [(0, .ref h0), (1, .int u1), (2, .int u2), (3, .int u3), (4, .int u4), (5, .int u5), (6, .int u6)] → W p l e (headSpec (wsOf yX12_plain cX12_plain 7 (some .int)) ({ frames := 303, cells := 0, slots := 0, locals := 60 * (303) } : Room)).room s m ([.ref h0, .int x1, .int x2] : List Value).toArray below meth c H locs 0 0 (MQ below (va_Qi (fun (x : Int32) (_ : Unit) => x = r9) (fun _ t_ => va_P (dC, dI) vwCl (mW cB cI cJ cZ h0 a cs9) t_.heap ∧ va_D A (mW cB cI cJ cZ h0 a cs9)) A) ([.ref h0, .int x1, .int x2] : List Value).toArray s 0 0 A) (F0 m 35 ls []) := by
        intro lf_35
        induction lf_35 with
        | zero => intro cs1 u1 u2 u3 u4 u5 u6 h; cases (show (none : Option (RS × Int32)) = _ from h)
        | succ lf_35 ih_35 =>
          intro cs1 u1 u2 u3 u4 u5 u6 h H locs ls hP hD hS hl
          rw [m_plain_L35] at h
          refine lv_iload hx hb dX12_plain_35 (lv_at hl 6 rfl) ?_
          refine lv_aload_n hx hb dX12_plain_37 rfl (lv_at hl 0 rfl) ?_
          refine fg_36 hx hb hts hown hK hP dX12_plain_38 ?_
          refine lv_iload_n hx hb dX12_plain_41 rfl (lv_at hl 1 rfl) ?_
          obtain ⟨v_1, hv_1, h⟩ := ob h
          refine ag_36 hx hb hK hP hv_1 dX12_plain_42 ?_
          refine lv_icmp_ge (tgt := 103) hx hb dX12_plain_43 (by decide) (fun c_2 => ?_) (fun c_2 => ?_)
          · skip
            replace h := (if_pos c_2).symm.trans h
            refine lv_iinc (v := u4 + 1) (lv' := [(4, .int (u4 + 1)), (0, .ref h0), (1, .int u1), (2, .int u2), (3, .int u3), (5, .int u5), (6, .int u6)]) hx hb dX12_plain_103 hl (k := 4) rfl rfl (by decide) rfl (fun ls hl => ?_)
            refine lv_goto (tgt := 14) hx hb dX12_plain_106 (by decide) ?_
            exact ih_14 cs1 u1 u2 u3 (u4 + 1) h _ _ _ hP hD hS (lv_sub hl [1, 2, 3, 4, 0] rfl)
          · skip
            replace h := (if_neg c_2).symm.trans h
            refine lv_aload_n hx hb dX12_plain_46 rfl (lv_at hl 0 rfl) ?_
            refine lv_aload_n hx hb dX12_plain_47 rfl (lv_at hl 0 rfl) ?_
            refine lv_iload_n hx hb dX12_plain_48 rfl (lv_at hl 2 rfl) ?_
            refine lv_iload hx hb dX12_plain_49 (lv_at hl 4 rfl) ?_
            obtain ⟨v_3, hv_3, h⟩ := ob h
            refine calI (As := [.int u2, .int u4]) hx hb hml hts hown hK hP hD hS hA hZ (s_rowAt l dC dI cB cI cJ cZ h0 a K V fz F cs1 u2 u4 v_3 hv_3) (cw_rowAt hts (fr := 0) (Nat.le_of_ble_eq_true rfl) (Nat.le_of_ble_eq_true rfl)) rfl hl.1 (Nat.le_of_ble_eq_true rfl) ⟨Nat.zero_le _, Nat.zero_le _⟩ dX12_plain_51 (fun H locs hP hD hS => ?_)
            refine fp_93 hx hb hts hown hK hP hD hS dX12_plain_54 (fun H locs hP hD hS => ?_)
            refine lv_aload_n hx hb dX12_plain_57 rfl (lv_at hl 0 rfl) ?_
            refine fg_85 hx hb hts hown hK hP dX12_plain_58 ?_
            refine lv_iload hx hb dX12_plain_61 (lv_at hl 5 rfl) ?_
            refine lv_iload hx hb dX12_plain_63 (lv_at hl 6 rfl) ?_
            refine lv_iadd hx hb dX12_plain_65 ?_
            refine lv_aload_n hx hb dX12_plain_66 rfl (lv_at hl 0 rfl) ?_
            refine lv_aload_n hx hb dX12_plain_67 rfl (lv_at hl 0 rfl) ?_
            refine fg_44 hx hb hts hown hK hP dX12_plain_68 ?_
            refine lv_bipush (v := 8) hx hb dX12_plain_71 (by decide) ?_
            refine lv_iload_n hx hb dX12_plain_73 rfl (lv_at hl 1 rfl) ?_
            refine lv_imul hx hb dX12_plain_74 ?_
            refine lv_iload hx hb dX12_plain_75 (lv_at hl 6 rfl) ?_
            refine lv_iadd hx hb dX12_plain_77 ?_
            obtain ⟨v_4, hv_4, h⟩ := ob h
            refine ag_44 hx hb hK hP hv_4 dX12_plain_78 ?_
            obtain ⟨z_5, hv_5, h⟩ := ob h
            refine calL (As := [.int v_4]) hx hb hml hts hown hK hP hD hS hA hZ (s_eval l dC dI cB cI cJ cZ h0 a K V fz F 300 (setF cs1 93 v_3) v_4 z_5.1 z_5.2 hv_5) (cw_eval hts (fr := 302) (Nat.le_of_ble_eq_true rfl) (Nat.le_of_ble_eq_true rfl)) rfl hl.1 (Nat.le_of_ble_eq_true rfl) ⟨Nat.zero_le _, Nat.zero_le _⟩ dX12_plain_79 (fun H locs hP hD hS => ?_)
            obtain ⟨cs_6, hv_6, h⟩ := ob h
            refine ap_85 hx hb hK hP hD hS hv_6 dX12_plain_82 (fun H locs hP hD hS => ?_)
            refine lv_aload_n hx hb dX12_plain_83 rfl (lv_at hl 0 rfl) ?_
            refine fg_86 hx hb hts hown hK hP dX12_plain_84 ?_
            refine lv_iload hx hb dX12_plain_87 (lv_at hl 5 rfl) ?_
            refine lv_iload hx hb dX12_plain_89 (lv_at hl 6 rfl) ?_
            refine lv_iadd hx hb dX12_plain_91 ?_
            refine lv_aload_n hx hb dX12_plain_92 rfl (lv_at hl 0 rfl) ?_
            refine fg_92 hx hb hts hown hK hP dX12_plain_93 ?_
            obtain ⟨cs_7, hv_7, h⟩ := ob h
            refine ap_86 hx hb hK hP hD hS hv_7 dX12_plain_96 (fun H locs hP hD hS => ?_)
            refine lv_iinc (v := u6 + 1) (lv' := [(6, .int (u6 + 1)), (0, .ref h0), (1, .int u1), (2, .int u2), (3, .int u3), (4, .int u4), (5, .int u5)]) hx hb dX12_plain_97 hl (k := 6) rfl rfl (by decide) rfl (fun ls hl => ?_)
            refine lv_goto (tgt := 35) hx hb dX12_plain_100 (by decide) ?_
            exact ih_35 cs_7 u1 u2 u3 u4 u5 (u6 + 1) h _ _ _ hP hD hS (lv_sub hl [1, 2, 3, 4, 5, 6, 0] rfl)
      intro cs1 u1 u2 u3 u4 h H locs ls hP hD hS hl
      rw [m_plain_L14] at h
      refine lv_iload hx hb dX12_plain_14 (lv_at hl 4 rfl) ?_
      refine lv_aload_n hx hb dX12_plain_16 rfl (lv_at hl 0 rfl) ?_
      refine fg_89 hx hb hts hown hK hP dX12_plain_17 ?_
      refine lv_iload_n hx hb dX12_plain_20 rfl (lv_at hl 2 rfl) ?_
      obtain ⟨v_8, hv_8, h⟩ := ob h
      refine ag_89 hx hb hK hP hv_8 dX12_plain_21 ?_
      refine lv_icmp_ge (tgt := 109) hx hb dX12_plain_22 (by decide) (fun c_9 => ?_) (fun c_9 => ?_)
      · skip
        replace h := (if_pos c_9).symm.trans h
        refine lv_iload_n hx hb dX12_plain_109 rfl (lv_at hl 3 rfl) ?_
        obtain ⟨e1, e2⟩ := Prod.mk.inj (Option.some.inj h)
        rw [e1] at hP hD
        exact W.iret (v := u3) hx hb hr (fun t_ ht hW => ⟨⟨u3, (), rfl, e2, by rw [ht]; exact hP, hD⟩, hS.F ht⟩) hS.2.2 dX12_plain_110
      · skip
        replace h := (if_neg c_9).symm.trans h
        refine lv_aload_n hx hb dX12_plain_25 rfl (lv_at hl 0 rfl) ?_
        refine lv_iload_n hx hb dX12_plain_26 rfl (lv_at hl 3 rfl) ?_
        obtain ⟨z_10, hv_10, h⟩ := ob h
        refine calI (As := [.int u3]) hx hb hml hts hown hK hP hD hS hA hZ (s_newRow l dC dI cB cI cJ cZ h0 a K V fz F cs1 u3 z_10.1 z_10.2 hv_10) (cw_newRow hts (fr := 0) (Nat.le_of_ble_eq_true rfl) (Nat.le_of_ble_eq_true rfl)) rfl hl.1 (Nat.le_of_ble_eq_true rfl) ⟨Nat.zero_le _, Nat.zero_le _⟩ dX12_plain_27 (fun H locs hP hD hS => ?_)
        refine lv_istore (lv' := [(5, .int z_10.2), (0, .ref h0), (1, .int u1), (2, .int u2), (3, .int u3), (4, .int u4)]) hx hb dX12_plain_30 hl (by decide) rfl (fun ls hl => ?_)
        refine lv_iconst (v := 0) hx hb dX12_plain_32 (by decide) ?_
        refine lv_istore (lv' := [(6, .int 0), (5, .int z_10.2), (0, .ref h0), (1, .int u1), (2, .int u2), (3, .int u3), (4, .int u4)]) hx hb dX12_plain_33 hl (by decide) rfl (fun ls hl => ?_)
        exact L_35 F z_10.1 u1 u2 u3 u4 z_10.2 0 h _ _ _ hP hD hS (lv_sub hl [2, 3, 4, 5, 6, 1, 0] rfl)
  have h := hf
  unfold m_plain at h
  refine lv_aload_n hx hb dX12_plain_0 rfl (lv_at hl 0 rfl) ?_
  refine lv_aload_n hx hb dX12_plain_1 rfl (lv_at hl 0 rfl) ?_
  refine fg_36 hx hb hts hown hK hP dX12_plain_2 ?_
  refine lv_iload_n hx hb dX12_plain_5 rfl (lv_at hl 1 rfl) ?_
  obtain ⟨v_11, hv_11, h⟩ := ob h
  refine ag_36 hx hb hK hP hv_11 dX12_plain_6 ?_
  obtain ⟨z_12, hv_12, h⟩ := ob h
  refine calI (As := [.int v_11]) hx hb hml hts hown hK hP hD hS hA hZ (s_relation l dC dI cB cI cJ cZ h0 a K V fz F cs v_11 z_12.1 z_12.2 hv_12) (cw_relation hts (fr := 0) (Nat.le_of_ble_eq_true rfl) (Nat.le_of_ble_eq_true rfl)) rfl hl.1 (Nat.le_of_ble_eq_true rfl) ⟨Nat.zero_le _, Nat.zero_le _⟩ dX12_plain_7 (fun H locs hP hD hS => ?_)
  refine lv_istore_n (lv' := [(3, .int z_12.2), (0, .ref h0), (1, .int x1), (2, .int x2)]) hx hb dX12_plain_10 rfl hl (by decide) rfl (fun ls hl => ?_)
  refine lv_iconst (v := 0) hx hb dX12_plain_11 (by decide) ?_
  refine lv_istore (lv' := [(4, .int 0), (3, .int z_12.2), (0, .ref h0), (1, .int x1), (2, .int x2)]) hx hb dX12_plain_12 hl (by decide) rfl (fun ls hl => ?_)
  exact L_14 F z_12.1 x1 x2 z_12.2 0 h _ _ _ hP hD hS (lv_sub hl [2, 3, 4, 1, 0] rfl)
theorem cw_plain {R : Room} {s : State} {args : Array Value} {y0 : MethodName} {c0 : ByteArray} {n0 : Nat} {r0 : Option FieldType} (hts : ∀ w ∈ wsOf y0 c0 n0 r0, w.before args s = true) {fr : Nat} (h1 : fr + 1 ≤ R.frames) (h2 : 8 + (7 + 11) + 60 * fr ≤ R.locals) : CallW R s args RX12 RX12 687 yX12_plain cX12_plain 7 (some .int) (wsOf yX12_plain cX12_plain 7 (some .int)) ({ frames := fr, cells := 0, slots := 0, locals := 60 * fr } : Room) 0 0 2 := cwV 2 hts (gd_all (in_V kw_2172 kw_2174 kw_122 kw_191 kc_X12_plain)) rfl rfl rfl (by decide +kernel) ⟨h1, h2⟩
theorem dX12_hasRow_0 : decode cX12_hasRow 0 = .ok (.iconst 0, 1) := by decide +kernel
theorem dX12_hasRow_1 : decode cX12_hasRow 1 = .ok (.istore 4, 2) := by decide +kernel
theorem dX12_hasRow_3 : decode cX12_hasRow 3 = .ok (.iload 4, 2) := by decide +kernel
theorem dX12_hasRow_5 : decode cX12_hasRow 5 = .ok (.iload_n 3, 1) := by decide +kernel
theorem dX12_hasRow_6 : decode cX12_hasRow 6 = .ok (.if_icmp .ge 32, 3) := by decide +kernel
theorem dX12_hasRow_9 : decode cX12_hasRow 9 = .ok (.aload_n 0, 1) := by decide +kernel
theorem dX12_hasRow_10 : decode cX12_hasRow 10 = .ok (.aload_n 0, 1) := by decide +kernel
theorem dX12_hasRow_11 : decode cX12_hasRow 11 = .ok (.iload_n 1, 1) := by decide +kernel
theorem dX12_hasRow_12 : decode cX12_hasRow 12 = .ok (.iload 4, 2) := by decide +kernel
theorem dX12_hasRow_14 : decode cX12_hasRow 14 = .ok (.invokevirtual 653, 3) := by decide +kernel
theorem dX12_hasRow_17 : decode cX12_hasRow 17 = .ok (.iload_n 2, 1) := by decide +kernel
theorem dX12_hasRow_18 : decode cX12_hasRow 18 = .ok (.aload_n 0, 1) := by decide +kernel
theorem dX12_hasRow_19 : decode cX12_hasRow 19 = .ok (.getfield 206, 3) := by decide +kernel
theorem dX12_hasRow_22 : decode cX12_hasRow 22 = .ok (.iload_n 1, 1) := by decide +kernel
theorem dX12_hasRow_23 : decode cX12_hasRow 23 = .ok (.iaload, 1) := by decide +kernel
theorem dX12_hasRow_24 : decode cX12_hasRow 24 = .ok (.invokevirtual 693, 3) := by decide +kernel
theorem dX12_hasRow_27 : decode cX12_hasRow 27 = .ok (.ifCond .ne 5, 3) := by decide +kernel
theorem dX12_hasRow_30 : decode cX12_hasRow 30 = .ok (.iconst 1, 1) := by decide +kernel
theorem dX12_hasRow_31 : decode cX12_hasRow 31 = .ok (.ireturn, 1) := by decide +kernel
theorem dX12_hasRow_32 : decode cX12_hasRow 32 = .ok (.iinc 4 1, 3) := by decide +kernel
theorem dX12_hasRow_35 : decode cX12_hasRow 35 = .ok (.goto (-32), 3) := by decide +kernel
theorem dX12_hasRow_38 : decode cX12_hasRow 38 = .ok (.iconst 0, 1) := by decide +kernel
theorem dX12_hasRow_39 : decode cX12_hasRow 39 = .ok (.ireturn, 1) := by decide +kernel
def m_hasRow_L3 (F : Nat) (cs : RS) : Nat → Int32 → Int32 → Int32 → Int32 → Option Int32
  | 0, _, _, _, _ => none
  | lf_3 + 1, u1, u2, u3, u4 => if u3 ≤ u4 then (some 0) else (Option.bind (m_rowAt F cs u1 u4) fun v_2 => Option.bind (rdI (cs.2.2.1 90) 400 u1) fun v_3 => Option.bind (m_compareRows F cs v_2 u2 v_3) fun v_4 => if v_4 = 0 then (some 1) else ((m_hasRow_L3 F cs lf_3) u1 u2 u3 (u4 + 1)))
def m_hasRow (F : Nat) (cs : RS) (x1 : Int32) (x2 : Int32) (x3 : Int32) : Option Int32 := m_hasRow_L3 F cs F x1 x2 x3 0
set_option maxHeartbeats 4000000 in
set_option maxRecDepth 100000 in
theorem s_hasRow (l : Launch) (dC : Nat → ClassId) (dI : Nat → Nat → Nat) (cB cI cJ cZ : ClassId) (h0 : Nat) (a : Nat → Nat) (K V : Nat → Nat) (fz : Value) (F : Nat) (cs : RS) (x1 : Int32) (x2 : Int32) (x3 : Int32) (r9 : Int32) (hf : m_hasRow F cs x1 x2 x3 = some r9) : okI l dC dI cB cI cJ cZ h0 a K V fz yX12_hasRow (wsOf yX12_hasRow cX12_hasRow 5 (some .boolean)) (2) [.ref h0, .int x1, .int x2, .int x3] cs cs r9 := by
  intro sz
  refine Met.ofW (cc := cX12_hasRow) (maxL := 5) (ret := (some .boolean)) (by decide) rfl ?_
  intro p e s m args below meth c s₁ B hml hv
  obtain ⟨rfl, hsz, hP, hK, hD0, hZ⟩ := hv
  have hx := B.exec
  have hb := B.bytes
  have hr := B.returns
  have hts := atoms_spec (ws := (wsOf yX12_hasRow cX12_hasRow 5 (some .boolean))) B.pre
  have hown : s.vm.findClass RX12 = some m.cls := findClass_of_methodNamed B.named
  have hlocks := B.notSynchronized
  subst hsz
  have hD := hD0.self (sz := s.heap.size)
  generalize hAe : va_A (mW cB cI cJ cZ h0 a cs) s.heap.size = A at hD hZ ⊢
  have hA : ∀ q : Nat, s.heap.size ≤ q → A q := fun q h => by rw [← hAe]; exact Or.inr h
  have hS : va_S A s.heap s.heap [] := va_S.rf
  have hl := lv_entry ([.ref h0, .int x1, .int x2, .int x3]) (n := 5) (Nat.le_of_ble_eq_true rfl)
  rw [lg_entry_eq]
  generalize (lg_sl ([.ref h0, .int x1, .int x2, .int x3]) ++ List.replicate (5 - (lg_sl ([.ref h0, .int x1, .int x2, .int x3])).length) Slot.unset).toArray = ls at hl ⊢
  have hl : lv_has ls 5 [(0, .ref h0), (1, .int x1), (2, .int x2), (3, .int x3)] := hl
  have L_3 : ∀ (lf_3 : Nat), ∀ (u1 : Int32) (u2 : Int32) (u3 : Int32) (u4 : Int32), m_hasRow_L3 F cs lf_3 u1 u2 u3 u4 = some r9 → ∀ (H : Heap) (locs : List Loc) (ls : Array Slot), va_P (dC, dI) vwCl (mW cB cI cJ cZ h0 a cs) H → va_D A (mW cB cI cJ cZ h0 a cs) → va_S A s.heap H locs → lv_has ls 5 [(0, .ref h0), (1, .int u1), (2, .int u2), (3, .int u3), (4, .int u4)] → W p l e (headSpec (wsOf yX12_hasRow cX12_hasRow 5 (some .boolean)) ({ frames := 2, cells := 0, slots := 0, locals := 60 * (2) } : Room)).room s m ([.ref h0, .int x1, .int x2, .int x3] : List Value).toArray below meth c H locs 0 0 (MQ below (va_Qi (fun (x : Int32) (_ : Unit) => x = r9) (fun _ t_ => va_P (dC, dI) vwCl (mW cB cI cJ cZ h0 a cs) t_.heap ∧ va_D A (mW cB cI cJ cZ h0 a cs)) A) ([.ref h0, .int x1, .int x2, .int x3] : List Value).toArray s 0 0 A) (F0 m 3 ls []) := by
    intro lf_3
    induction lf_3 with
    | zero => intro u1 u2 u3 u4 h; cases (show (none : Option Int32) = _ from h)
    | succ lf_3 ih_3 =>
      intro u1 u2 u3 u4 h H locs ls hP hD hS hl
      rw [m_hasRow_L3] at h
      refine lv_iload hx hb dX12_hasRow_3 (lv_at hl 4 rfl) ?_
      refine lv_iload_n hx hb dX12_hasRow_5 rfl (lv_at hl 3 rfl) ?_
      refine lv_icmp_ge (tgt := 38) hx hb dX12_hasRow_6 (by decide) (fun c_1 => ?_) (fun c_1 => ?_)
      · skip
        replace h := (if_pos c_1).symm.trans h
        refine lv_iconst (v := 0) hx hb dX12_hasRow_38 (by decide) ?_
        have e2 := Option.some.inj h
        exact W.zret (v := 0) hx hb hr (nzN (Or.inl rfl)) (fun t_ ht hW => ⟨⟨0, (), rfl, e2, by rw [ht]; exact hP, hD⟩, hS.F ht⟩) hS.2.2 dX12_hasRow_39
      · skip
        replace h := (if_neg c_1).symm.trans h
        refine lv_aload_n hx hb dX12_hasRow_9 rfl (lv_at hl 0 rfl) ?_
        refine lv_aload_n hx hb dX12_hasRow_10 rfl (lv_at hl 0 rfl) ?_
        refine lv_iload_n hx hb dX12_hasRow_11 rfl (lv_at hl 1 rfl) ?_
        refine lv_iload hx hb dX12_hasRow_12 (lv_at hl 4 rfl) ?_
        obtain ⟨v_2, hv_2, h⟩ := ob h
        refine calI (As := [.int u1, .int u4]) hx hb hml hts hown hK hP hD hS hA hZ (s_rowAt l dC dI cB cI cJ cZ h0 a K V fz F cs u1 u4 v_2 hv_2) (cw_rowAt hts (fr := 0) (Nat.le_of_ble_eq_true rfl) (Nat.le_of_ble_eq_true rfl)) rfl hl.1 (Nat.le_of_ble_eq_true rfl) ⟨Nat.zero_le _, Nat.zero_le _⟩ dX12_hasRow_14 (fun H locs hP hD hS => ?_)
        refine lv_iload_n hx hb dX12_hasRow_17 rfl (lv_at hl 2 rfl) ?_
        refine lv_aload_n hx hb dX12_hasRow_18 rfl (lv_at hl 0 rfl) ?_
        refine fg_90 hx hb hts hown hK hP dX12_hasRow_19 ?_
        refine lv_iload_n hx hb dX12_hasRow_22 rfl (lv_at hl 1 rfl) ?_
        obtain ⟨v_3, hv_3, h⟩ := ob h
        refine ag_90 hx hb hK hP hv_3 dX12_hasRow_23 ?_
        obtain ⟨v_4, hv_4, h⟩ := ob h
        refine calI (As := [.int v_2, .int u2, .int v_3]) hx hb hml hts hown hK hP hD hS hA hZ (s_compareRows l dC dI cB cI cJ cZ h0 a K V fz F cs v_2 u2 v_3 v_4 hv_4) (cw_compareRows hts (fr := 1) (Nat.le_of_ble_eq_true rfl) (Nat.le_of_ble_eq_true rfl)) rfl hl.1 (Nat.le_of_ble_eq_true rfl) ⟨Nat.zero_le _, Nat.zero_le _⟩ dX12_hasRow_24 (fun H locs hP hD hS => ?_)
        refine lv_if_ne (tgt := 32) hx hb dX12_hasRow_27 (by decide) (fun c_5 => ?_) (fun c_5 => ?_)
        · skip
          replace h := (if_neg c_5).symm.trans h
          refine lv_iinc (v := u4 + 1) (lv' := [(4, .int (u4 + 1)), (0, .ref h0), (1, .int u1), (2, .int u2), (3, .int u3)]) hx hb dX12_hasRow_32 hl (k := 4) rfl rfl (by decide) rfl (fun ls hl => ?_)
          refine lv_goto (tgt := 3) hx hb dX12_hasRow_35 (by decide) ?_
          exact ih_3 u1 u2 u3 (u4 + 1) h _ _ _ hP hD hS (lv_sub hl [1, 2, 3, 4, 0] rfl)
        · skip
          replace h := (if_pos c_5).symm.trans h
          refine lv_iconst (v := 1) hx hb dX12_hasRow_30 (by decide) ?_
          have e2 := Option.some.inj h
          exact W.zret (v := 1) hx hb hr (nzN (Or.inr rfl)) (fun t_ ht hW => ⟨⟨1, (), rfl, e2, by rw [ht]; exact hP, hD⟩, hS.F ht⟩) hS.2.2 dX12_hasRow_31
  have h := hf
  unfold m_hasRow at h
  refine lv_iconst (v := 0) hx hb dX12_hasRow_0 (by decide) ?_
  refine lv_istore (lv' := [(4, .int 0), (0, .ref h0), (1, .int x1), (2, .int x2), (3, .int x3)]) hx hb dX12_hasRow_1 hl (by decide) rfl (fun ls hl => ?_)
  exact L_3 F x1 x2 x3 0 h _ _ _ hP hD hS (lv_sub hl [1, 2, 3, 4, 0] rfl)
theorem cw_hasRow {R : Room} {s : State} {args : Array Value} {y0 : MethodName} {c0 : ByteArray} {n0 : Nat} {r0 : Option FieldType} (hts : ∀ w ∈ wsOf y0 c0 n0 r0, w.before args s = true) {fr : Nat} (h1 : fr + 1 ≤ R.frames) (h2 : 8 + (5 + 11) + 60 * fr ≤ R.locals) : CallW R s args RX12 RX12 696 yX12_hasRow cX12_hasRow 5 (some .boolean) (wsOf yX12_hasRow cX12_hasRow 5 (some .boolean)) ({ frames := fr, cells := 0, slots := 0, locals := 60 * fr } : Room) 0 0 3 := cwV 3 hts (gd_all (in_V kw_2180 kw_2182 kw_124 kw_191 kc_X12_hasRow)) rfl rfl rfl (by decide +kernel) ⟨h1, h2⟩
theorem dX12_once_0 : decode cX12_once 0 = .ok (.aload_n 0, 1) := by decide +kernel
theorem dX12_once_1 : decode cX12_once 1 = .ok (.aload_n 0, 1) := by decide +kernel
theorem dX12_once_2 : decode cX12_once 2 = .ok (.getfield 206, 3) := by decide +kernel
theorem dX12_once_5 : decode cX12_once 5 = .ok (.iload_n 1, 1) := by decide +kernel
theorem dX12_once_6 : decode cX12_once 6 = .ok (.iaload, 1) := by decide +kernel
theorem dX12_once_7 : decode cX12_once 7 = .ok (.invokevirtual 662, 3) := by decide +kernel
theorem dX12_once_10 : decode cX12_once 10 = .ok (.istore_n 2, 1) := by decide +kernel
theorem dX12_once_11 : decode cX12_once 11 = .ok (.iconst 0, 1) := by decide +kernel
theorem dX12_once_12 : decode cX12_once 12 = .ok (.istore_n 3, 1) := by decide +kernel
theorem dX12_once_13 : decode cX12_once 13 = .ok (.iload_n 3, 1) := by decide +kernel
theorem dX12_once_14 : decode cX12_once 14 = .ok (.aload_n 0, 1) := by decide +kernel
theorem dX12_once_15 : decode cX12_once 15 = .ok (.getfield 203, 3) := by decide +kernel
theorem dX12_once_18 : decode cX12_once 18 = .ok (.iload_n 1, 1) := by decide +kernel
theorem dX12_once_19 : decode cX12_once 19 = .ok (.iaload, 1) := by decide +kernel
theorem dX12_once_20 : decode cX12_once 20 = .ok (.if_icmp .ge 50, 3) := by decide +kernel
theorem dX12_once_23 : decode cX12_once 23 = .ok (.aload_n 0, 1) := by decide +kernel
theorem dX12_once_24 : decode cX12_once 24 = .ok (.iload_n 2, 1) := by decide +kernel
theorem dX12_once_25 : decode cX12_once 25 = .ok (.aload_n 0, 1) := by decide +kernel
theorem dX12_once_26 : decode cX12_once 26 = .ok (.iload_n 1, 1) := by decide +kernel
theorem dX12_once_27 : decode cX12_once 27 = .ok (.iload_n 3, 1) := by decide +kernel
theorem dX12_once_28 : decode cX12_once 28 = .ok (.invokevirtual 653, 3) := by decide +kernel
theorem dX12_once_31 : decode cX12_once 31 = .ok (.aload_n 0, 1) := by decide +kernel
theorem dX12_once_32 : decode cX12_once 32 = .ok (.getfield 203, 3) := by decide +kernel
theorem dX12_once_35 : decode cX12_once 35 = .ok (.iload_n 2, 1) := by decide +kernel
theorem dX12_once_36 : decode cX12_once 36 = .ok (.iaload, 1) := by decide +kernel
theorem dX12_once_37 : decode cX12_once 37 = .ok (.invokevirtual 696, 3) := by decide +kernel
theorem dX12_once_40 : decode cX12_once 40 = .ok (.ifCond .ne 24, 3) := by decide +kernel
theorem dX12_once_43 : decode cX12_once 43 = .ok (.aload_n 0, 1) := by decide +kernel
theorem dX12_once_44 : decode cX12_once 44 = .ok (.aload_n 0, 1) := by decide +kernel
theorem dX12_once_45 : decode cX12_once 45 = .ok (.iload_n 1, 1) := by decide +kernel
theorem dX12_once_46 : decode cX12_once 46 = .ok (.iload_n 3, 1) := by decide +kernel
theorem dX12_once_47 : decode cX12_once 47 = .ok (.invokevirtual 653, 3) := by decide +kernel
theorem dX12_once_50 : decode cX12_once 50 = .ok (.aload_n 0, 1) := by decide +kernel
theorem dX12_once_51 : decode cX12_once 51 = .ok (.iload_n 2, 1) := by decide +kernel
theorem dX12_once_52 : decode cX12_once 52 = .ok (.invokevirtual 668, 3) := by decide +kernel
theorem dX12_once_55 : decode cX12_once 55 = .ok (.aload_n 0, 1) := by decide +kernel
theorem dX12_once_56 : decode cX12_once 56 = .ok (.getfield 206, 3) := by decide +kernel
theorem dX12_once_59 : decode cX12_once 59 = .ok (.iload_n 1, 1) := by decide +kernel
theorem dX12_once_60 : decode cX12_once 60 = .ok (.iaload, 1) := by decide +kernel
theorem dX12_once_61 : decode cX12_once 61 = .ok (.invokevirtual 671, 3) := by decide +kernel
theorem dX12_once_64 : decode cX12_once 64 = .ok (.iinc 3 1, 3) := by decide +kernel
theorem dX12_once_67 : decode cX12_once 67 = .ok (.goto (-54), 3) := by decide +kernel
theorem dX12_once_70 : decode cX12_once 70 = .ok (.iload_n 2, 1) := by decide +kernel
theorem dX12_once_71 : decode cX12_once 71 = .ok (.ireturn, 1) := by decide +kernel
def m_once_b64 (F : Nat) (rc13 : RS → Int32 → Int32 → Int32 → Option (RS × Int32)) (cs1 : RS) (u1 : Int32) (u2 : Int32) (u3 : Int32) : Option (RS × Int32) := rc13 cs1 u1 u2 (u3 + 1)
def m_once_L13 (F : Nat) : Nat → RS → Int32 → Int32 → Int32 → Option (RS × Int32)
  | 0, _, _, _, _ => none
  | lf_13 + 1, cs1, u1, u2, u3 => Option.bind (rdI (cs1.2.2.1 89) 400 u1) fun v_1 => if v_1 ≤ u3 then (some (cs1, u2)) else (Option.bind (m_rowAt F cs1 u1 u3) fun v_3 => Option.bind (rdI (cs1.2.2.1 89) 400 u2) fun v_4 => Option.bind (m_hasRow F cs1 u2 v_3 v_4) fun v_5 => if v_5 = 0 then (Option.bind (m_rowAt F cs1 u1 u3) fun v_7 => Option.bind (m_newRow F cs1 u2) fun z_8 => Option.bind (rdI (z_8.1.2.2.1 90) 400 u1) fun v_9 => Option.bind (m_copy F z_8.1 v_7 z_8.2 v_9) fun cs_10 => m_once_b64 F (m_once_L13 F lf_13) cs_10 u1 u2 u3) else (m_once_b64 F (m_once_L13 F lf_13) cs1 u1 u2 u3))
def m_once (F : Nat) (cs : RS) (x1 : Int32) : Option (RS × Int32) := Option.bind (rdI (cs.2.2.1 90) 400 x1) fun v_11 => Option.bind (m_relation F cs v_11) fun z_12 => m_once_L13 F F z_12.1 x1 z_12.2 0
set_option maxHeartbeats 4000000 in
set_option maxRecDepth 100000 in
theorem s_once (l : Launch) (dC : Nat → ClassId) (dI : Nat → Nat → Nat) (cB cI cJ cZ : ClassId) (h0 : Nat) (a : Nat → Nat) (K V : Nat → Nat) (fz : Value) (F : Nat) (cs : RS) (x1 : Int32) (cs9 : RS) (r9 : Int32) (hf : m_once F cs x1 = some (cs9, r9)) : okI l dC dI cB cI cJ cZ h0 a K V fz yX12_once (wsOf yX12_once cX12_once 4 (some .int)) (3) [.ref h0, .int x1] cs cs9 r9 := by
  intro sz
  refine Met.ofW (cc := cX12_once) (maxL := 4) (ret := (some .int)) (by decide) rfl ?_
  intro p e s m args below meth c s₁ B hml hv
  obtain ⟨rfl, hsz, hP, hK, hD0, hZ⟩ := hv
  have hx := B.exec
  have hb := B.bytes
  have hr := B.returns
  have hts := atoms_spec (ws := (wsOf yX12_once cX12_once 4 (some .int))) B.pre
  have hown : s.vm.findClass RX12 = some m.cls := findClass_of_methodNamed B.named
  have hlocks := B.notSynchronized
  subst hsz
  have hD := hD0.self (sz := s.heap.size)
  generalize hAe : va_A (mW cB cI cJ cZ h0 a cs) s.heap.size = A at hD hZ ⊢
  have hA : ∀ q : Nat, s.heap.size ≤ q → A q := fun q h => by rw [← hAe]; exact Or.inr h
  have hS : va_S A s.heap s.heap [] := va_S.rf
  have hl := lv_entry ([.ref h0, .int x1]) (n := 4) (Nat.le_of_ble_eq_true rfl)
  rw [lg_entry_eq]
  generalize (lg_sl ([.ref h0, .int x1]) ++ List.replicate (4 - (lg_sl ([.ref h0, .int x1])).length) Slot.unset).toArray = ls at hl ⊢
  have hl : lv_has ls 4 [(0, .ref h0), (1, .int x1)] := hl
  have L_13 : ∀ (lf_13 : Nat), ∀ (cs1 : RS) (u1 : Int32) (u2 : Int32) (u3 : Int32), m_once_L13 F lf_13 cs1 u1 u2 u3 = some (cs9, r9) → ∀ (H : Heap) (locs : List Loc) (ls : Array Slot), va_P (dC, dI) vwCl (mW cB cI cJ cZ h0 a cs1) H → va_D A (mW cB cI cJ cZ h0 a cs1) → va_S A s.heap H locs → lv_has ls 4 [(0, .ref h0), (1, .int u1), (2, .int u2), (3, .int u3)] → W p l e (headSpec (wsOf yX12_once cX12_once 4 (some .int)) ({ frames := 3, cells := 0, slots := 0, locals := 60 * (3) } : Room)).room s m ([.ref h0, .int x1] : List Value).toArray below meth c H locs 0 0 (MQ below (va_Qi (fun (x : Int32) (_ : Unit) => x = r9) (fun _ t_ => va_P (dC, dI) vwCl (mW cB cI cJ cZ h0 a cs9) t_.heap ∧ va_D A (mW cB cI cJ cZ h0 a cs9)) A) ([.ref h0, .int x1] : List Value).toArray s 0 0 A) (F0 m 13 ls []) := by
    intro lf_13
    induction lf_13 with
    | zero => intro cs1 u1 u2 u3 h; cases (show (none : Option (RS × Int32)) = _ from h)
    | succ lf_13 ih_13 =>
      have B_64 : ∀ (cs1 : RS) (u1 : Int32) (u2 : Int32) (u3 : Int32), m_once_b64 F (m_once_L13 F lf_13) cs1 u1 u2 u3 = some (cs9, r9) → ∀ (H : Heap) (locs : List Loc) (ls : Array Slot), va_P (dC, dI) vwCl (mW cB cI cJ cZ h0 a cs1) H → va_D A (mW cB cI cJ cZ h0 a cs1) → va_S A s.heap H locs → lv_has ls 4 [(0, .ref h0), (1, .int u1), (2, .int u2), (3, .int u3)] → W p l e (headSpec (wsOf yX12_once cX12_once 4 (some .int)) ({ frames := 3, cells := 0, slots := 0, locals := 60 * (3) } : Room)).room s m ([.ref h0, .int x1] : List Value).toArray below meth c H locs 0 0 (MQ below (va_Qi (fun (x : Int32) (_ : Unit) => x = r9) (fun _ t_ => va_P (dC, dI) vwCl (mW cB cI cJ cZ h0 a cs9) t_.heap ∧ va_D A (mW cB cI cJ cZ h0 a cs9)) A) ([.ref h0, .int x1] : List Value).toArray s 0 0 A) (F0 m 64 ls []) := by
        intro cs1 u1 u2 u3 h H locs ls hP hD hS hl
        unfold m_once_b64 at h
        refine lv_iinc (v := u3 + 1) (lv' := [(3, .int (u3 + 1)), (0, .ref h0), (1, .int u1), (2, .int u2)]) hx hb dX12_once_64 hl (k := 3) rfl rfl (by decide) rfl (fun ls hl => ?_)
        refine lv_goto (tgt := 13) hx hb dX12_once_67 (by decide) ?_
        exact ih_13 cs1 u1 u2 (u3 + 1) h _ _ _ hP hD hS (lv_sub hl [1, 2, 3, 0] rfl)
      intro cs1 u1 u2 u3 h H locs ls hP hD hS hl
      rw [m_once_L13] at h
      refine lv_iload_n hx hb dX12_once_13 rfl (lv_at hl 3 rfl) ?_
      refine lv_aload_n hx hb dX12_once_14 rfl (lv_at hl 0 rfl) ?_
      refine fg_89 hx hb hts hown hK hP dX12_once_15 ?_
      refine lv_iload_n hx hb dX12_once_18 rfl (lv_at hl 1 rfl) ?_
      obtain ⟨v_1, hv_1, h⟩ := ob h
      refine ag_89 hx hb hK hP hv_1 dX12_once_19 ?_
      refine lv_icmp_ge (tgt := 70) hx hb dX12_once_20 (by decide) (fun c_2 => ?_) (fun c_2 => ?_)
      · skip
        replace h := (if_pos c_2).symm.trans h
        refine lv_iload_n hx hb dX12_once_70 rfl (lv_at hl 2 rfl) ?_
        obtain ⟨e1, e2⟩ := Prod.mk.inj (Option.some.inj h)
        rw [e1] at hP hD
        exact W.iret (v := u2) hx hb hr (fun t_ ht hW => ⟨⟨u2, (), rfl, e2, by rw [ht]; exact hP, hD⟩, hS.F ht⟩) hS.2.2 dX12_once_71
      · skip
        replace h := (if_neg c_2).symm.trans h
        refine lv_aload_n hx hb dX12_once_23 rfl (lv_at hl 0 rfl) ?_
        refine lv_iload_n hx hb dX12_once_24 rfl (lv_at hl 2 rfl) ?_
        refine lv_aload_n hx hb dX12_once_25 rfl (lv_at hl 0 rfl) ?_
        refine lv_iload_n hx hb dX12_once_26 rfl (lv_at hl 1 rfl) ?_
        refine lv_iload_n hx hb dX12_once_27 rfl (lv_at hl 3 rfl) ?_
        obtain ⟨v_3, hv_3, h⟩ := ob h
        refine calI (As := [.int u1, .int u3]) hx hb hml hts hown hK hP hD hS hA hZ (s_rowAt l dC dI cB cI cJ cZ h0 a K V fz F cs1 u1 u3 v_3 hv_3) (cw_rowAt hts (fr := 0) (Nat.le_of_ble_eq_true rfl) (Nat.le_of_ble_eq_true rfl)) rfl hl.1 (Nat.le_of_ble_eq_true rfl) ⟨Nat.zero_le _, Nat.zero_le _⟩ dX12_once_28 (fun H locs hP hD hS => ?_)
        refine lv_aload_n hx hb dX12_once_31 rfl (lv_at hl 0 rfl) ?_
        refine fg_89 hx hb hts hown hK hP dX12_once_32 ?_
        refine lv_iload_n hx hb dX12_once_35 rfl (lv_at hl 2 rfl) ?_
        obtain ⟨v_4, hv_4, h⟩ := ob h
        refine ag_89 hx hb hK hP hv_4 dX12_once_36 ?_
        obtain ⟨v_5, hv_5, h⟩ := ob h
        refine calI (As := [.int u2, .int v_3, .int v_4]) hx hb hml hts hown hK hP hD hS hA hZ (s_hasRow l dC dI cB cI cJ cZ h0 a K V fz F cs1 u2 v_3 v_4 v_5 hv_5) (cw_hasRow hts (fr := 2) (Nat.le_of_ble_eq_true rfl) (Nat.le_of_ble_eq_true rfl)) rfl hl.1 (Nat.le_of_ble_eq_true rfl) ⟨Nat.zero_le _, Nat.zero_le _⟩ dX12_once_37 (fun H locs hP hD hS => ?_)
        refine lv_if_ne (tgt := 64) hx hb dX12_once_40 (by decide) (fun c_6 => ?_) (fun c_6 => ?_)
        · skip
          replace h := (if_neg c_6).symm.trans h
          exact B_64 cs1 u1 u2 u3 h _ _ _ hP hD hS (lv_sub hl [0, 1, 2, 3] rfl)
        · skip
          replace h := (if_pos c_6).symm.trans h
          refine lv_aload_n hx hb dX12_once_43 rfl (lv_at hl 0 rfl) ?_
          refine lv_aload_n hx hb dX12_once_44 rfl (lv_at hl 0 rfl) ?_
          refine lv_iload_n hx hb dX12_once_45 rfl (lv_at hl 1 rfl) ?_
          refine lv_iload_n hx hb dX12_once_46 rfl (lv_at hl 3 rfl) ?_
          obtain ⟨v_7, hv_7, h⟩ := ob h
          refine calI (As := [.int u1, .int u3]) hx hb hml hts hown hK hP hD hS hA hZ (s_rowAt l dC dI cB cI cJ cZ h0 a K V fz F cs1 u1 u3 v_7 hv_7) (cw_rowAt hts (fr := 0) (Nat.le_of_ble_eq_true rfl) (Nat.le_of_ble_eq_true rfl)) rfl hl.1 (Nat.le_of_ble_eq_true rfl) ⟨Nat.zero_le _, Nat.zero_le _⟩ dX12_once_47 (fun H locs hP hD hS => ?_)
          refine lv_aload_n hx hb dX12_once_50 rfl (lv_at hl 0 rfl) ?_
          refine lv_iload_n hx hb dX12_once_51 rfl (lv_at hl 2 rfl) ?_
          obtain ⟨z_8, hv_8, h⟩ := ob h
          refine calI (As := [.int u2]) hx hb hml hts hown hK hP hD hS hA hZ (s_newRow l dC dI cB cI cJ cZ h0 a K V fz F cs1 u2 z_8.1 z_8.2 hv_8) (cw_newRow hts (fr := 0) (Nat.le_of_ble_eq_true rfl) (Nat.le_of_ble_eq_true rfl)) rfl hl.1 (Nat.le_of_ble_eq_true rfl) ⟨Nat.zero_le _, Nat.zero_le _⟩ dX12_once_52 (fun H locs hP hD hS => ?_)
          refine lv_aload_n hx hb dX12_once_55 rfl (lv_at hl 0 rfl) ?_
          refine fg_90 hx hb hts hown hK hP dX12_once_56 ?_
          refine lv_iload_n hx hb dX12_once_59 rfl (lv_at hl 1 rfl) ?_
          obtain ⟨v_9, hv_9, h⟩ := ob h
          refine ag_90 hx hb hK hP hv_9 dX12_once_60 ?_
          obtain ⟨cs_10, hv_10, h⟩ := ob h
          refine calV (As := [.int v_7, .int z_8.2, .int v_9]) hx hb hml hts hown hK hP hD hS hA hZ (s_copy l dC dI cB cI cJ cZ h0 a K V fz F z_8.1 v_7 z_8.2 v_9 cs_10 hv_10) (cw_copy hts (fr := 0) (Nat.le_of_ble_eq_true rfl) (Nat.le_of_ble_eq_true rfl)) rfl hl.1 (Nat.le_of_ble_eq_true rfl) ⟨Nat.zero_le _, Nat.zero_le _⟩ dX12_once_61 (fun H locs hP hD hS => ?_)
          exact B_64 cs_10 u1 u2 u3 h _ _ _ hP hD hS (lv_sub hl [0, 1, 2, 3] rfl)
  have h := hf
  unfold m_once at h
  refine lv_aload_n hx hb dX12_once_0 rfl (lv_at hl 0 rfl) ?_
  refine lv_aload_n hx hb dX12_once_1 rfl (lv_at hl 0 rfl) ?_
  refine fg_90 hx hb hts hown hK hP dX12_once_2 ?_
  refine lv_iload_n hx hb dX12_once_5 rfl (lv_at hl 1 rfl) ?_
  obtain ⟨v_11, hv_11, h⟩ := ob h
  refine ag_90 hx hb hK hP hv_11 dX12_once_6 ?_
  obtain ⟨z_12, hv_12, h⟩ := ob h
  refine calI (As := [.int v_11]) hx hb hml hts hown hK hP hD hS hA hZ (s_relation l dC dI cB cI cJ cZ h0 a K V fz F cs v_11 z_12.1 z_12.2 hv_12) (cw_relation hts (fr := 0) (Nat.le_of_ble_eq_true rfl) (Nat.le_of_ble_eq_true rfl)) rfl hl.1 (Nat.le_of_ble_eq_true rfl) ⟨Nat.zero_le _, Nat.zero_le _⟩ dX12_once_7 (fun H locs hP hD hS => ?_)
  refine lv_istore_n (lv' := [(2, .int z_12.2), (0, .ref h0), (1, .int x1)]) hx hb dX12_once_10 rfl hl (by decide) rfl (fun ls hl => ?_)
  refine lv_iconst (v := 0) hx hb dX12_once_11 (by decide) ?_
  refine lv_istore_n (lv' := [(3, .int 0), (2, .int z_12.2), (0, .ref h0), (1, .int x1)]) hx hb dX12_once_12 rfl hl (by decide) rfl (fun ls hl => ?_)
  exact L_13 F z_12.1 x1 z_12.2 0 h _ _ _ hP hD hS (lv_sub hl [2, 3, 1, 0] rfl)
theorem cw_once {R : Room} {s : State} {args : Array Value} {y0 : MethodName} {c0 : ByteArray} {n0 : Nat} {r0 : Option FieldType} (hts : ∀ w ∈ wsOf y0 c0 n0 r0, w.before args s = true) {fr : Nat} (h1 : fr + 1 ≤ R.frames) (h2 : 8 + (4 + 11) + 60 * fr ≤ R.locals) : CallW R s args RX12 RX12 690 yX12_once cX12_once 4 (some .int) (wsOf yX12_once cX12_once 4 (some .int)) ({ frames := fr, cells := 0, slots := 0, locals := 60 * fr } : Room) 0 0 1 := cwV 1 hts (gd_all (in_V kw_2176 kw_2178 kw_123 kw_191 kc_X12_once)) rfl rfl rfl (by decide +kernel) ⟨h1, h2⟩
theorem dX12_setOf_0 : decode cX12_setOf 0 = .ok (.aload_n 0, 1) := by decide +kernel
theorem dX12_setOf_1 : decode cX12_setOf 1 = .ok (.aload_n 0, 1) := by decide +kernel
theorem dX12_setOf_2 : decode cX12_setOf 2 = .ok (.getfield 206, 3) := by decide +kernel
theorem dX12_setOf_5 : decode cX12_setOf 5 = .ok (.iload_n 2, 1) := by decide +kernel
theorem dX12_setOf_6 : decode cX12_setOf 6 = .ok (.iaload, 1) := by decide +kernel
theorem dX12_setOf_7 : decode cX12_setOf 7 = .ok (.invokevirtual 662, 3) := by decide +kernel
theorem dX12_setOf_10 : decode cX12_setOf 10 = .ok (.istore 4, 2) := by decide +kernel
theorem dX12_setOf_12 : decode cX12_setOf 12 = .ok (.aload_n 0, 1) := by decide +kernel
theorem dX12_setOf_13 : decode cX12_setOf 13 = .ok (.getfield 206, 3) := by decide +kernel
theorem dX12_setOf_16 : decode cX12_setOf 16 = .ok (.iload_n 2, 1) := by decide +kernel
theorem dX12_setOf_17 : decode cX12_setOf 17 = .ok (.iaload, 1) := by decide +kernel
theorem dX12_setOf_18 : decode cX12_setOf 18 = .ok (.istore 5, 2) := by decide +kernel
theorem dX12_setOf_20 : decode cX12_setOf 20 = .ok (.iconst 0, 1) := by decide +kernel
theorem dX12_setOf_21 : decode cX12_setOf 21 = .ok (.istore 6, 2) := by decide +kernel
theorem dX12_setOf_23 : decode cX12_setOf 23 = .ok (.iload 6, 2) := by decide +kernel
theorem dX12_setOf_25 : decode cX12_setOf 25 = .ok (.aload_n 0, 1) := by decide +kernel
theorem dX12_setOf_26 : decode cX12_setOf 26 = .ok (.getfield 203, 3) := by decide +kernel
theorem dX12_setOf_29 : decode cX12_setOf 29 = .ok (.iload_n 2, 1) := by decide +kernel
theorem dX12_setOf_30 : decode cX12_setOf 30 = .ok (.iaload, 1) := by decide +kernel
theorem dX12_setOf_31 : decode cX12_setOf 31 = .ok (.if_icmp .ge 98, 3) := by decide +kernel
theorem dX12_setOf_34 : decode cX12_setOf 34 = .ok (.aload_n 0, 1) := by decide +kernel
theorem dX12_setOf_35 : decode cX12_setOf 35 = .ok (.iload_n 2, 1) := by decide +kernel
theorem dX12_setOf_36 : decode cX12_setOf 36 = .ok (.iload 6, 2) := by decide +kernel
theorem dX12_setOf_38 : decode cX12_setOf 38 = .ok (.invokevirtual 653, 3) := by decide +kernel
theorem dX12_setOf_41 : decode cX12_setOf 41 = .ok (.istore 7, 2) := by decide +kernel
theorem dX12_setOf_43 : decode cX12_setOf 43 = .ok (.iload_n 1, 1) := by decide +kernel
theorem dX12_setOf_44 : decode cX12_setOf 44 = .ok (.iconst 2, 1) := by decide +kernel
theorem dX12_setOf_45 : decode cX12_setOf 45 = .ok (.if_icmp .le 29, 3) := by decide +kernel
theorem dX12_setOf_48 : decode cX12_setOf 48 = .ok (.aload_n 0, 1) := by decide +kernel
theorem dX12_setOf_49 : decode cX12_setOf 49 = .ok (.iload_n 3, 1) := by decide +kernel
theorem dX12_setOf_50 : decode cX12_setOf 50 = .ok (.iload 7, 2) := by decide +kernel
theorem dX12_setOf_52 : decode cX12_setOf 52 = .ok (.aload_n 0, 1) := by decide +kernel
theorem dX12_setOf_53 : decode cX12_setOf 53 = .ok (.getfield 203, 3) := by decide +kernel
theorem dX12_setOf_56 : decode cX12_setOf 56 = .ok (.iload_n 3, 1) := by decide +kernel
theorem dX12_setOf_57 : decode cX12_setOf 57 = .ok (.iaload, 1) := by decide +kernel
theorem dX12_setOf_58 : decode cX12_setOf 58 = .ok (.invokevirtual 696, 3) := by decide +kernel
theorem dX12_setOf_61 : decode cX12_setOf 61 = .ok (.iload_n 1, 1) := by decide +kernel
theorem dX12_setOf_62 : decode cX12_setOf 62 = .ok (.iconst 4, 1) := by decide +kernel
theorem dX12_setOf_63 : decode cX12_setOf 63 = .ok (.if_icmp .ne 7, 3) := by decide +kernel
theorem dX12_setOf_66 : decode cX12_setOf 66 = .ok (.iconst 1, 1) := by decide +kernel
theorem dX12_setOf_67 : decode cX12_setOf 67 = .ok (.goto 4, 3) := by decide +kernel
theorem dX12_setOf_70 : decode cX12_setOf 70 = .ok (.iconst 0, 1) := by decide +kernel
theorem dX12_setOf_71 : decode cX12_setOf 71 = .ok (.if_icmp .ne 7, 3) := by decide +kernel
theorem dX12_setOf_74 : decode cX12_setOf 74 = .ok (.iconst 1, 1) := by decide +kernel
theorem dX12_setOf_75 : decode cX12_setOf 75 = .ok (.goto 4, 3) := by decide +kernel
theorem dX12_setOf_78 : decode cX12_setOf 78 = .ok (.iconst 0, 1) := by decide +kernel
theorem dX12_setOf_79 : decode cX12_setOf 79 = .ok (.istore 8, 2) := by decide +kernel
theorem dX12_setOf_81 : decode cX12_setOf 81 = .ok (.iload 8, 2) := by decide +kernel
theorem dX12_setOf_83 : decode cX12_setOf 83 = .ok (.ifCond .eq 40, 3) := by decide +kernel
theorem dX12_setOf_86 : decode cX12_setOf 86 = .ok (.iload_n 1, 1) := by decide +kernel
theorem dX12_setOf_87 : decode cX12_setOf 87 = .ok (.iconst 1, 1) := by decide +kernel
theorem dX12_setOf_88 : decode cX12_setOf 88 = .ok (.if_icmp .eq 21, 3) := by decide +kernel
theorem dX12_setOf_91 : decode cX12_setOf 91 = .ok (.aload_n 0, 1) := by decide +kernel
theorem dX12_setOf_92 : decode cX12_setOf 92 = .ok (.iload 4, 2) := by decide +kernel
theorem dX12_setOf_94 : decode cX12_setOf 94 = .ok (.iload 7, 2) := by decide +kernel
theorem dX12_setOf_96 : decode cX12_setOf 96 = .ok (.aload_n 0, 1) := by decide +kernel
theorem dX12_setOf_97 : decode cX12_setOf 97 = .ok (.getfield 203, 3) := by decide +kernel
theorem dX12_setOf_100 : decode cX12_setOf 100 = .ok (.iload 4, 2) := by decide +kernel
theorem dX12_setOf_102 : decode cX12_setOf 102 = .ok (.iaload, 1) := by decide +kernel
theorem dX12_setOf_103 : decode cX12_setOf 103 = .ok (.invokevirtual 696, 3) := by decide +kernel
theorem dX12_setOf_106 : decode cX12_setOf 106 = .ok (.ifCond .ne 17, 3) := by decide +kernel
theorem dX12_setOf_109 : decode cX12_setOf 109 = .ok (.aload_n 0, 1) := by decide +kernel
theorem dX12_setOf_110 : decode cX12_setOf 110 = .ok (.iload 7, 2) := by decide +kernel
theorem dX12_setOf_112 : decode cX12_setOf 112 = .ok (.aload_n 0, 1) := by decide +kernel
theorem dX12_setOf_113 : decode cX12_setOf 113 = .ok (.iload 4, 2) := by decide +kernel
theorem dX12_setOf_115 : decode cX12_setOf 115 = .ok (.invokevirtual 668, 3) := by decide +kernel
theorem dX12_setOf_118 : decode cX12_setOf 118 = .ok (.iload 5, 2) := by decide +kernel
theorem dX12_setOf_120 : decode cX12_setOf 120 = .ok (.invokevirtual 671, 3) := by decide +kernel
theorem dX12_setOf_123 : decode cX12_setOf 123 = .ok (.iinc 6 1, 3) := by decide +kernel
theorem dX12_setOf_126 : decode cX12_setOf 126 = .ok (.goto (-103), 3) := by decide +kernel
theorem dX12_setOf_129 : decode cX12_setOf 129 = .ok (.iconst 0, 1) := by decide +kernel
theorem dX12_setOf_130 : decode cX12_setOf 130 = .ok (.istore 6, 2) := by decide +kernel
theorem dX12_setOf_132 : decode cX12_setOf 132 = .ok (.iload 6, 2) := by decide +kernel
theorem dX12_setOf_134 : decode cX12_setOf 134 = .ok (.aload_n 0, 1) := by decide +kernel
theorem dX12_setOf_135 : decode cX12_setOf 135 = .ok (.getfield 203, 3) := by decide +kernel
theorem dX12_setOf_138 : decode cX12_setOf 138 = .ok (.iload_n 3, 1) := by decide +kernel
theorem dX12_setOf_139 : decode cX12_setOf 139 = .ok (.iaload, 1) := by decide +kernel
theorem dX12_setOf_140 : decode cX12_setOf 140 = .ok (.if_icmp .ge 60, 3) := by decide +kernel
theorem dX12_setOf_143 : decode cX12_setOf 143 = .ok (.iload_n 1, 1) := by decide +kernel
theorem dX12_setOf_144 : decode cX12_setOf 144 = .ok (.iconst 2, 1) := by decide +kernel
theorem dX12_setOf_145 : decode cX12_setOf 145 = .ok (.if_icmp .gt 55, 3) := by decide +kernel
theorem dX12_setOf_148 : decode cX12_setOf 148 = .ok (.aload_n 0, 1) := by decide +kernel
theorem dX12_setOf_149 : decode cX12_setOf 149 = .ok (.iload_n 3, 1) := by decide +kernel
theorem dX12_setOf_150 : decode cX12_setOf 150 = .ok (.iload 6, 2) := by decide +kernel
theorem dX12_setOf_152 : decode cX12_setOf 152 = .ok (.invokevirtual 653, 3) := by decide +kernel
theorem dX12_setOf_155 : decode cX12_setOf 155 = .ok (.istore 7, 2) := by decide +kernel
theorem dX12_setOf_157 : decode cX12_setOf 157 = .ok (.iload_n 1, 1) := by decide +kernel
theorem dX12_setOf_158 : decode cX12_setOf 158 = .ok (.iconst 1, 1) := by decide +kernel
theorem dX12_setOf_159 : decode cX12_setOf 159 = .ok (.if_icmp .eq 21, 3) := by decide +kernel
theorem dX12_setOf_162 : decode cX12_setOf 162 = .ok (.aload_n 0, 1) := by decide +kernel
theorem dX12_setOf_163 : decode cX12_setOf 163 = .ok (.iload 4, 2) := by decide +kernel
theorem dX12_setOf_165 : decode cX12_setOf 165 = .ok (.iload 7, 2) := by decide +kernel
theorem dX12_setOf_167 : decode cX12_setOf 167 = .ok (.aload_n 0, 1) := by decide +kernel
theorem dX12_setOf_168 : decode cX12_setOf 168 = .ok (.getfield 203, 3) := by decide +kernel
theorem dX12_setOf_171 : decode cX12_setOf 171 = .ok (.iload 4, 2) := by decide +kernel
theorem dX12_setOf_173 : decode cX12_setOf 173 = .ok (.iaload, 1) := by decide +kernel
theorem dX12_setOf_174 : decode cX12_setOf 174 = .ok (.invokevirtual 696, 3) := by decide +kernel
theorem dX12_setOf_177 : decode cX12_setOf 177 = .ok (.ifCond .ne 17, 3) := by decide +kernel
theorem dX12_setOf_180 : decode cX12_setOf 180 = .ok (.aload_n 0, 1) := by decide +kernel
theorem dX12_setOf_181 : decode cX12_setOf 181 = .ok (.iload 7, 2) := by decide +kernel
theorem dX12_setOf_183 : decode cX12_setOf 183 = .ok (.aload_n 0, 1) := by decide +kernel
theorem dX12_setOf_184 : decode cX12_setOf 184 = .ok (.iload 4, 2) := by decide +kernel
theorem dX12_setOf_186 : decode cX12_setOf 186 = .ok (.invokevirtual 668, 3) := by decide +kernel
theorem dX12_setOf_189 : decode cX12_setOf 189 = .ok (.iload 5, 2) := by decide +kernel
theorem dX12_setOf_191 : decode cX12_setOf 191 = .ok (.invokevirtual 671, 3) := by decide +kernel
theorem dX12_setOf_194 : decode cX12_setOf 194 = .ok (.iinc 6 1, 3) := by decide +kernel
theorem dX12_setOf_197 : decode cX12_setOf 197 = .ok (.goto (-65), 3) := by decide +kernel
theorem dX12_setOf_200 : decode cX12_setOf 200 = .ok (.iload 4, 2) := by decide +kernel
theorem dX12_setOf_202 : decode cX12_setOf 202 = .ok (.ireturn, 1) := by decide +kernel
def m_setOf_b200 (F : Nat) (cs1 : RS) (u4 : Int32) : Option (RS × Int32) := some (cs1, u4)
def m_setOf_b194 (F : Nat) (rc132 : RS → Int32 → Int32 → Int32 → Int32 → Int32 → Option (RS × Int32)) (cs1 : RS) (u1 : Int32) (u3 : Int32) (u4 : Int32) (u5 : Int32) (u6 : Int32) : Option (RS × Int32) := rc132 cs1 u1 u3 u4 u5 (u6 + 1)
def m_setOf_b180 (F : Nat) (rc132 : RS → Int32 → Int32 → Int32 → Int32 → Int32 → Option (RS × Int32)) (cs1 : RS) (u1 : Int32) (u3 : Int32) (u4 : Int32) (u5 : Int32) (u6 : Int32) (u7 : Int32) : Option (RS × Int32) := Option.bind (m_newRow F cs1 u4) fun z_1 => Option.bind (m_copy F z_1.1 u7 z_1.2 u5) fun cs_2 => m_setOf_b194 F rc132 cs_2 u1 u3 u4 u5 u6
def m_setOf_L132 (F : Nat) : Nat → RS → Int32 → Int32 → Int32 → Int32 → Int32 → Option (RS × Int32)
  | 0, _, _, _, _, _, _ => none
  | lf_132 + 1, cs1, u1, u3, u4, u5, u6 => Option.bind (rdI (cs1.2.2.1 89) 400 u3) fun v_3 => if v_3 ≤ u6 then (m_setOf_b200 F cs1 u4) else (if 2 < u1 then (m_setOf_b200 F cs1 u4) else (Option.bind (m_rowAt F cs1 u3 u6) fun v_6 => if u1 = 1 then (m_setOf_b180 F (m_setOf_L132 F lf_132) cs1 u1 u3 u4 u5 u6 v_6) else (Option.bind (rdI (cs1.2.2.1 89) 400 u4) fun v_8 => Option.bind (m_hasRow F cs1 u4 v_6 v_8) fun v_9 => if v_9 = 0 then (m_setOf_b180 F (m_setOf_L132 F lf_132) cs1 u1 u3 u4 u5 u6 v_6) else (m_setOf_b194 F (m_setOf_L132 F lf_132) cs1 u1 u3 u4 u5 u6))))
def m_setOf_b123 (F : Nat) (rc23 : RS → Int32 → Int32 → Int32 → Int32 → Int32 → Int32 → Option (RS × Int32)) (cs1 : RS) (u1 : Int32) (u2 : Int32) (u3 : Int32) (u4 : Int32) (u5 : Int32) (u6 : Int32) : Option (RS × Int32) := rc23 cs1 u1 u2 u3 u4 u5 (u6 + 1)
def m_setOf_b109 (F : Nat) (rc23 : RS → Int32 → Int32 → Int32 → Int32 → Int32 → Int32 → Option (RS × Int32)) (cs1 : RS) (u1 : Int32) (u2 : Int32) (u3 : Int32) (u4 : Int32) (u5 : Int32) (u6 : Int32) (u7 : Int32) : Option (RS × Int32) := Option.bind (m_newRow F cs1 u4) fun z_11 => Option.bind (m_copy F z_11.1 u7 z_11.2 u5) fun cs_12 => m_setOf_b123 F rc23 cs_12 u1 u2 u3 u4 u5 u6
def m_setOf_b79 (F : Nat) (rc23 : RS → Int32 → Int32 → Int32 → Int32 → Int32 → Int32 → Option (RS × Int32)) (cs1 : RS) (u1 : Int32) (u2 : Int32) (u3 : Int32) (u4 : Int32) (u5 : Int32) (u6 : Int32) (u7 : Int32) (y0 : Int32) : Option (RS × Int32) := if y0 = 0 then (m_setOf_b123 F rc23 cs1 u1 u2 u3 u4 u5 u6) else (if u1 = 1 then (m_setOf_b109 F rc23 cs1 u1 u2 u3 u4 u5 u6 u7) else (Option.bind (rdI (cs1.2.2.1 89) 400 u4) fun v_15 => Option.bind (m_hasRow F cs1 u4 u7 v_15) fun v_16 => if v_16 = 0 then (m_setOf_b109 F rc23 cs1 u1 u2 u3 u4 u5 u6 u7) else (m_setOf_b123 F rc23 cs1 u1 u2 u3 u4 u5 u6)))
def m_setOf_b74 (F : Nat) (rc23 : RS → Int32 → Int32 → Int32 → Int32 → Int32 → Int32 → Option (RS × Int32)) (cs1 : RS) (u1 : Int32) (u2 : Int32) (u3 : Int32) (u4 : Int32) (u5 : Int32) (u6 : Int32) (u7 : Int32) : Option (RS × Int32) := m_setOf_b79 F rc23 cs1 u1 u2 u3 u4 u5 u6 u7 1
def m_setOf_b71 (F : Nat) (rc23 : RS → Int32 → Int32 → Int32 → Int32 → Int32 → Int32 → Option (RS × Int32)) (cs1 : RS) (u1 : Int32) (u2 : Int32) (u3 : Int32) (u4 : Int32) (u5 : Int32) (u6 : Int32) (u7 : Int32) (y0 : Int32) (y1 : Int32) : Option (RS × Int32) := if y1 = y0 then (m_setOf_b74 F rc23 cs1 u1 u2 u3 u4 u5 u6 u7) else (m_setOf_b79 F rc23 cs1 u1 u2 u3 u4 u5 u6 u7 0)
def m_setOf_L23 (F : Nat) : Nat → RS → Int32 → Int32 → Int32 → Int32 → Int32 → Int32 → Option (RS × Int32)
  | 0, _, _, _, _, _, _, _ => none
  | lf_23 + 1, cs1, u1, u2, u3, u4, u5, u6 => Option.bind (rdI (cs1.2.2.1 89) 400 u2) fun v_19 => if v_19 ≤ u6 then (m_setOf_L132 F F cs1 u1 u3 u4 u5 0) else (Option.bind (m_rowAt F cs1 u2 u6) fun v_21 => if u1 ≤ 2 then (m_setOf_b74 F (m_setOf_L23 F lf_23) cs1 u1 u2 u3 u4 u5 u6 v_21) else (Option.bind (rdI (cs1.2.2.1 89) 400 u3) fun v_23 => Option.bind (m_hasRow F cs1 u3 v_21 v_23) fun v_24 => if u1 = 4 then (m_setOf_b71 F (m_setOf_L23 F lf_23) cs1 u1 u2 u3 u4 u5 u6 v_21 1 v_24) else (m_setOf_b71 F (m_setOf_L23 F lf_23) cs1 u1 u2 u3 u4 u5 u6 v_21 0 v_24)))
def m_setOf (F : Nat) (cs : RS) (x1 : Int32) (x2 : Int32) (x3 : Int32) : Option (RS × Int32) := Option.bind (rdI (cs.2.2.1 90) 400 x2) fun v_26 => Option.bind (m_relation F cs v_26) fun z_27 => Option.bind (rdI (z_27.1.2.2.1 90) 400 x2) fun v_28 => m_setOf_L23 F F z_27.1 x1 x2 x3 z_27.2 v_28 0
set_option maxHeartbeats 4000000 in
set_option maxRecDepth 100000 in
theorem s_setOf (l : Launch) (dC : Nat → ClassId) (dI : Nat → Nat → Nat) (cB cI cJ cZ : ClassId) (h0 : Nat) (a : Nat → Nat) (K V : Nat → Nat) (fz : Value) (F : Nat) (cs : RS) (x1 : Int32) (x2 : Int32) (x3 : Int32) (cs9 : RS) (r9 : Int32) (hf : m_setOf F cs x1 x2 x3 = some (cs9, r9)) : okI l dC dI cB cI cJ cZ h0 a K V fz yX12_setOf (wsOf yX12_setOf cX12_setOf 9 (some .int)) (3) [.ref h0, .int x1, .int x2, .int x3] cs cs9 r9 := by
  intro sz
  refine Met.ofW (cc := cX12_setOf) (maxL := 9) (ret := (some .int)) (by decide) rfl ?_
  intro p e s m args below meth c s₁ B hml hv
  obtain ⟨rfl, hsz, hP, hK, hD0, hZ⟩ := hv
  have hx := B.exec
  have hb := B.bytes
  have hr := B.returns
  have hts := atoms_spec (ws := (wsOf yX12_setOf cX12_setOf 9 (some .int))) B.pre
  have hown : s.vm.findClass RX12 = some m.cls := findClass_of_methodNamed B.named
  have hlocks := B.notSynchronized
  subst hsz
  have hD := hD0.self (sz := s.heap.size)
  generalize hAe : va_A (mW cB cI cJ cZ h0 a cs) s.heap.size = A at hD hZ ⊢
  have hA : ∀ q : Nat, s.heap.size ≤ q → A q := fun q h => by rw [← hAe]; exact Or.inr h
  have hS : va_S A s.heap s.heap [] := va_S.rf
  have hl := lv_entry ([.ref h0, .int x1, .int x2, .int x3]) (n := 9) (Nat.le_of_ble_eq_true rfl)
  rw [lg_entry_eq]
  generalize (lg_sl ([.ref h0, .int x1, .int x2, .int x3]) ++ List.replicate (9 - (lg_sl ([.ref h0, .int x1, .int x2, .int x3])).length) Slot.unset).toArray = ls at hl ⊢
  have hl : lv_has ls 9 [(0, .ref h0), (1, .int x1), (2, .int x2), (3, .int x3)] := hl
  have B_200 : ∀ (cs1 : RS) (u4 : Int32), m_setOf_b200 F cs1 u4 = some (cs9, r9) → ∀ (H : Heap) (locs : List Loc) (ls : Array Slot), va_P (dC, dI) vwCl (mW cB cI cJ cZ h0 a cs1) H → va_D A (mW cB cI cJ cZ h0 a cs1) → va_S A s.heap H locs → lv_has ls 9 [(4, .int u4)] → W p l e (headSpec (wsOf yX12_setOf cX12_setOf 9 (some .int)) ({ frames := 3, cells := 0, slots := 0, locals := 60 * (3) } : Room)).room s m ([.ref h0, .int x1, .int x2, .int x3] : List Value).toArray below meth c H locs 0 0 (MQ below (va_Qi (fun (x : Int32) (_ : Unit) => x = r9) (fun _ t_ => va_P (dC, dI) vwCl (mW cB cI cJ cZ h0 a cs9) t_.heap ∧ va_D A (mW cB cI cJ cZ h0 a cs9)) A) ([.ref h0, .int x1, .int x2, .int x3] : List Value).toArray s 0 0 A) (F0 m 200 ls []) := by
    intro cs1 u4 h H locs ls hP hD hS hl
    unfold m_setOf_b200 at h
    refine lv_iload hx hb dX12_setOf_200 (lv_at hl 0 rfl) ?_
    obtain ⟨e1, e2⟩ := Prod.mk.inj (Option.some.inj h)
    rw [e1] at hP hD
    exact W.iret (v := u4) hx hb hr (fun t_ ht hW => ⟨⟨u4, (), rfl, e2, by rw [ht]; exact hP, hD⟩, hS.F ht⟩) hS.2.2 dX12_setOf_202
  have L_132 : ∀ (lf_132 : Nat), ∀ (cs1 : RS) (u1 : Int32) (u3 : Int32) (u4 : Int32) (u5 : Int32) (u6 : Int32), m_setOf_L132 F lf_132 cs1 u1 u3 u4 u5 u6 = some (cs9, r9) → ∀ (H : Heap) (locs : List Loc) (ls : Array Slot), va_P (dC, dI) vwCl (mW cB cI cJ cZ h0 a cs1) H → va_D A (mW cB cI cJ cZ h0 a cs1) → va_S A s.heap H locs → lv_has ls 9 [(0, .ref h0), (1, .int u1), (3, .int u3), (4, .int u4), (5, .int u5), (6, .int u6)] → W p l e (headSpec (wsOf yX12_setOf cX12_setOf 9 (some .int)) ({ frames := 3, cells := 0, slots := 0, locals := 60 * (3) } : Room)).room s m ([.ref h0, .int x1, .int x2, .int x3] : List Value).toArray below meth c H locs 0 0 (MQ below (va_Qi (fun (x : Int32) (_ : Unit) => x = r9) (fun _ t_ => va_P (dC, dI) vwCl (mW cB cI cJ cZ h0 a cs9) t_.heap ∧ va_D A (mW cB cI cJ cZ h0 a cs9)) A) ([.ref h0, .int x1, .int x2, .int x3] : List Value).toArray s 0 0 A) (F0 m 132 ls []) := by
    intro lf_132
    induction lf_132 with
    | zero => intro cs1 u1 u3 u4 u5 u6 h; cases (show (none : Option (RS × Int32)) = _ from h)
    | succ lf_132 ih_132 =>
      have B_194 : ∀ (cs1 : RS) (u1 : Int32) (u3 : Int32) (u4 : Int32) (u5 : Int32) (u6 : Int32), m_setOf_b194 F (m_setOf_L132 F lf_132) cs1 u1 u3 u4 u5 u6 = some (cs9, r9) → ∀ (H : Heap) (locs : List Loc) (ls : Array Slot), va_P (dC, dI) vwCl (mW cB cI cJ cZ h0 a cs1) H → va_D A (mW cB cI cJ cZ h0 a cs1) → va_S A s.heap H locs → lv_has ls 9 [(0, .ref h0), (1, .int u1), (3, .int u3), (4, .int u4), (5, .int u5), (6, .int u6)] → W p l e (headSpec (wsOf yX12_setOf cX12_setOf 9 (some .int)) ({ frames := 3, cells := 0, slots := 0, locals := 60 * (3) } : Room)).room s m ([.ref h0, .int x1, .int x2, .int x3] : List Value).toArray below meth c H locs 0 0 (MQ below (va_Qi (fun (x : Int32) (_ : Unit) => x = r9) (fun _ t_ => va_P (dC, dI) vwCl (mW cB cI cJ cZ h0 a cs9) t_.heap ∧ va_D A (mW cB cI cJ cZ h0 a cs9)) A) ([.ref h0, .int x1, .int x2, .int x3] : List Value).toArray s 0 0 A) (F0 m 194 ls []) := by
        intro cs1 u1 u3 u4 u5 u6 h H locs ls hP hD hS hl
        unfold m_setOf_b194 at h
        refine lv_iinc (v := u6 + 1) (lv' := [(6, .int (u6 + 1)), (0, .ref h0), (1, .int u1), (3, .int u3), (4, .int u4), (5, .int u5)]) hx hb dX12_setOf_194 hl (k := 5) rfl rfl (by decide) rfl (fun ls hl => ?_)
        refine lv_goto (tgt := 132) hx hb dX12_setOf_197 (by decide) ?_
        exact ih_132 cs1 u1 u3 u4 u5 (u6 + 1) h _ _ _ hP hD hS (lv_sub hl [1, 2, 3, 4, 5, 0] rfl)
      have B_180 : ∀ (cs1 : RS) (u1 : Int32) (u3 : Int32) (u4 : Int32) (u5 : Int32) (u6 : Int32) (u7 : Int32), m_setOf_b180 F (m_setOf_L132 F lf_132) cs1 u1 u3 u4 u5 u6 u7 = some (cs9, r9) → ∀ (H : Heap) (locs : List Loc) (ls : Array Slot), va_P (dC, dI) vwCl (mW cB cI cJ cZ h0 a cs1) H → va_D A (mW cB cI cJ cZ h0 a cs1) → va_S A s.heap H locs → lv_has ls 9 [(0, .ref h0), (1, .int u1), (3, .int u3), (4, .int u4), (5, .int u5), (6, .int u6), (7, .int u7)] → W p l e (headSpec (wsOf yX12_setOf cX12_setOf 9 (some .int)) ({ frames := 3, cells := 0, slots := 0, locals := 60 * (3) } : Room)).room s m ([.ref h0, .int x1, .int x2, .int x3] : List Value).toArray below meth c H locs 0 0 (MQ below (va_Qi (fun (x : Int32) (_ : Unit) => x = r9) (fun _ t_ => va_P (dC, dI) vwCl (mW cB cI cJ cZ h0 a cs9) t_.heap ∧ va_D A (mW cB cI cJ cZ h0 a cs9)) A) ([.ref h0, .int x1, .int x2, .int x3] : List Value).toArray s 0 0 A) (F0 m 180 ls []) := by
        intro cs1 u1 u3 u4 u5 u6 u7 h H locs ls hP hD hS hl
        unfold m_setOf_b180 at h
        refine lv_aload_n hx hb dX12_setOf_180 rfl (lv_at hl 0 rfl) ?_
        refine lv_iload hx hb dX12_setOf_181 (lv_at hl 6 rfl) ?_
        refine lv_aload_n hx hb dX12_setOf_183 rfl (lv_at hl 0 rfl) ?_
        refine lv_iload hx hb dX12_setOf_184 (lv_at hl 3 rfl) ?_
        obtain ⟨z_1, hv_1, h⟩ := ob h
        refine calI (As := [.int u4]) hx hb hml hts hown hK hP hD hS hA hZ (s_newRow l dC dI cB cI cJ cZ h0 a K V fz F cs1 u4 z_1.1 z_1.2 hv_1) (cw_newRow hts (fr := 0) (Nat.le_of_ble_eq_true rfl) (Nat.le_of_ble_eq_true rfl)) rfl hl.1 (Nat.le_of_ble_eq_true rfl) ⟨Nat.zero_le _, Nat.zero_le _⟩ dX12_setOf_186 (fun H locs hP hD hS => ?_)
        refine lv_iload hx hb dX12_setOf_189 (lv_at hl 4 rfl) ?_
        obtain ⟨cs_2, hv_2, h⟩ := ob h
        refine calV (As := [.int u7, .int z_1.2, .int u5]) hx hb hml hts hown hK hP hD hS hA hZ (s_copy l dC dI cB cI cJ cZ h0 a K V fz F z_1.1 u7 z_1.2 u5 cs_2 hv_2) (cw_copy hts (fr := 0) (Nat.le_of_ble_eq_true rfl) (Nat.le_of_ble_eq_true rfl)) rfl hl.1 (Nat.le_of_ble_eq_true rfl) ⟨Nat.zero_le _, Nat.zero_le _⟩ dX12_setOf_191 (fun H locs hP hD hS => ?_)
        exact B_194 cs_2 u1 u3 u4 u5 u6 h _ _ _ hP hD hS (lv_sub hl [0, 1, 2, 3, 4, 5] rfl)
      intro cs1 u1 u3 u4 u5 u6 h H locs ls hP hD hS hl
      rw [m_setOf_L132] at h
      refine lv_iload hx hb dX12_setOf_132 (lv_at hl 5 rfl) ?_
      refine lv_aload_n hx hb dX12_setOf_134 rfl (lv_at hl 0 rfl) ?_
      refine fg_89 hx hb hts hown hK hP dX12_setOf_135 ?_
      refine lv_iload_n hx hb dX12_setOf_138 rfl (lv_at hl 2 rfl) ?_
      obtain ⟨v_3, hv_3, h⟩ := ob h
      refine ag_89 hx hb hK hP hv_3 dX12_setOf_139 ?_
      refine lv_icmp_ge (tgt := 200) hx hb dX12_setOf_140 (by decide) (fun c_4 => ?_) (fun c_4 => ?_)
      · skip
        replace h := (if_pos c_4).symm.trans h
        exact B_200 cs1 u4 h _ _ _ hP hD hS (lv_sub hl [3] rfl)
      · skip
        replace h := (if_neg c_4).symm.trans h
        refine lv_iload_n hx hb dX12_setOf_143 rfl (lv_at hl 1 rfl) ?_
        refine lv_iconst (v := 2) hx hb dX12_setOf_144 (by decide) ?_
        refine lv_icmp_gt (tgt := 200) hx hb dX12_setOf_145 (by decide) (fun c_5 => ?_) (fun c_5 => ?_)
        · skip
          replace h := (if_pos c_5).symm.trans h
          exact B_200 cs1 u4 h _ _ _ hP hD hS (lv_sub hl [3] rfl)
        · skip
          replace h := (if_neg c_5).symm.trans h
          refine lv_aload_n hx hb dX12_setOf_148 rfl (lv_at hl 0 rfl) ?_
          refine lv_iload_n hx hb dX12_setOf_149 rfl (lv_at hl 2 rfl) ?_
          refine lv_iload hx hb dX12_setOf_150 (lv_at hl 5 rfl) ?_
          obtain ⟨v_6, hv_6, h⟩ := ob h
          refine calI (As := [.int u3, .int u6]) hx hb hml hts hown hK hP hD hS hA hZ (s_rowAt l dC dI cB cI cJ cZ h0 a K V fz F cs1 u3 u6 v_6 hv_6) (cw_rowAt hts (fr := 0) (Nat.le_of_ble_eq_true rfl) (Nat.le_of_ble_eq_true rfl)) rfl hl.1 (Nat.le_of_ble_eq_true rfl) ⟨Nat.zero_le _, Nat.zero_le _⟩ dX12_setOf_152 (fun H locs hP hD hS => ?_)
          refine lv_istore (lv' := [(7, .int v_6), (0, .ref h0), (1, .int u1), (3, .int u3), (4, .int u4), (5, .int u5), (6, .int u6)]) hx hb dX12_setOf_155 hl (by decide) rfl (fun ls hl => ?_)
          refine lv_iload_n hx hb dX12_setOf_157 rfl (lv_at hl 2 rfl) ?_
          refine lv_iconst (v := 1) hx hb dX12_setOf_158 (by decide) ?_
          refine lv_icmp_eq (tgt := 180) hx hb dX12_setOf_159 (by decide) (fun c_7 => ?_) (fun c_7 => ?_)
          · skip
            replace h := (if_pos c_7).symm.trans h
            exact B_180 cs1 u1 u3 u4 u5 u6 v_6 h _ _ _ hP hD hS (lv_sub hl [1, 2, 3, 4, 5, 6, 0] rfl)
          · skip
            replace h := (if_neg c_7).symm.trans h
            refine lv_aload_n hx hb dX12_setOf_162 rfl (lv_at hl 1 rfl) ?_
            refine lv_iload hx hb dX12_setOf_163 (lv_at hl 4 rfl) ?_
            refine lv_iload hx hb dX12_setOf_165 (lv_at hl 0 rfl) ?_
            refine lv_aload_n hx hb dX12_setOf_167 rfl (lv_at hl 1 rfl) ?_
            refine fg_89 hx hb hts hown hK hP dX12_setOf_168 ?_
            refine lv_iload hx hb dX12_setOf_171 (lv_at hl 4 rfl) ?_
            obtain ⟨v_8, hv_8, h⟩ := ob h
            refine ag_89 hx hb hK hP hv_8 dX12_setOf_173 ?_
            obtain ⟨v_9, hv_9, h⟩ := ob h
            refine calI (As := [.int u4, .int v_6, .int v_8]) hx hb hml hts hown hK hP hD hS hA hZ (s_hasRow l dC dI cB cI cJ cZ h0 a K V fz F cs1 u4 v_6 v_8 v_9 hv_9) (cw_hasRow hts (fr := 2) (Nat.le_of_ble_eq_true rfl) (Nat.le_of_ble_eq_true rfl)) rfl hl.1 (Nat.le_of_ble_eq_true rfl) ⟨Nat.zero_le _, Nat.zero_le _⟩ dX12_setOf_174 (fun H locs hP hD hS => ?_)
            refine lv_if_ne (tgt := 194) hx hb dX12_setOf_177 (by decide) (fun c_10 => ?_) (fun c_10 => ?_)
            · skip
              replace h := (if_neg c_10).symm.trans h
              exact B_194 cs1 u1 u3 u4 u5 u6 h _ _ _ hP hD hS (lv_sub hl [1, 2, 3, 4, 5, 6] rfl)
            · skip
              replace h := (if_pos c_10).symm.trans h
              exact B_180 cs1 u1 u3 u4 u5 u6 v_6 h _ _ _ hP hD hS (lv_sub hl [1, 2, 3, 4, 5, 6, 0] rfl)
  have L_23 : ∀ (lf_23 : Nat), ∀ (cs1 : RS) (u1 : Int32) (u2 : Int32) (u3 : Int32) (u4 : Int32) (u5 : Int32) (u6 : Int32), m_setOf_L23 F lf_23 cs1 u1 u2 u3 u4 u5 u6 = some (cs9, r9) → ∀ (H : Heap) (locs : List Loc) (ls : Array Slot), va_P (dC, dI) vwCl (mW cB cI cJ cZ h0 a cs1) H → va_D A (mW cB cI cJ cZ h0 a cs1) → va_S A s.heap H locs → lv_has ls 9 [(0, .ref h0), (1, .int u1), (2, .int u2), (3, .int u3), (4, .int u4), (5, .int u5), (6, .int u6)] → W p l e (headSpec (wsOf yX12_setOf cX12_setOf 9 (some .int)) ({ frames := 3, cells := 0, slots := 0, locals := 60 * (3) } : Room)).room s m ([.ref h0, .int x1, .int x2, .int x3] : List Value).toArray below meth c H locs 0 0 (MQ below (va_Qi (fun (x : Int32) (_ : Unit) => x = r9) (fun _ t_ => va_P (dC, dI) vwCl (mW cB cI cJ cZ h0 a cs9) t_.heap ∧ va_D A (mW cB cI cJ cZ h0 a cs9)) A) ([.ref h0, .int x1, .int x2, .int x3] : List Value).toArray s 0 0 A) (F0 m 23 ls []) := by
    intro lf_23
    induction lf_23 with
    | zero => intro cs1 u1 u2 u3 u4 u5 u6 h; cases (show (none : Option (RS × Int32)) = _ from h)
    | succ lf_23 ih_23 =>
      have B_123 : ∀ (cs1 : RS) (u1 : Int32) (u2 : Int32) (u3 : Int32) (u4 : Int32) (u5 : Int32) (u6 : Int32), m_setOf_b123 F (m_setOf_L23 F lf_23) cs1 u1 u2 u3 u4 u5 u6 = some (cs9, r9) → ∀ (H : Heap) (locs : List Loc) (ls : Array Slot), va_P (dC, dI) vwCl (mW cB cI cJ cZ h0 a cs1) H → va_D A (mW cB cI cJ cZ h0 a cs1) → va_S A s.heap H locs → lv_has ls 9 [(0, .ref h0), (1, .int u1), (2, .int u2), (3, .int u3), (4, .int u4), (5, .int u5), (6, .int u6)] → W p l e (headSpec (wsOf yX12_setOf cX12_setOf 9 (some .int)) ({ frames := 3, cells := 0, slots := 0, locals := 60 * (3) } : Room)).room s m ([.ref h0, .int x1, .int x2, .int x3] : List Value).toArray below meth c H locs 0 0 (MQ below (va_Qi (fun (x : Int32) (_ : Unit) => x = r9) (fun _ t_ => va_P (dC, dI) vwCl (mW cB cI cJ cZ h0 a cs9) t_.heap ∧ va_D A (mW cB cI cJ cZ h0 a cs9)) A) ([.ref h0, .int x1, .int x2, .int x3] : List Value).toArray s 0 0 A) (F0 m 123 ls []) := by
        intro cs1 u1 u2 u3 u4 u5 u6 h H locs ls hP hD hS hl
        unfold m_setOf_b123 at h
        refine lv_iinc (v := u6 + 1) (lv' := [(6, .int (u6 + 1)), (0, .ref h0), (1, .int u1), (2, .int u2), (3, .int u3), (4, .int u4), (5, .int u5)]) hx hb dX12_setOf_123 hl (k := 6) rfl rfl (by decide) rfl (fun ls hl => ?_)
        refine lv_goto (tgt := 23) hx hb dX12_setOf_126 (by decide) ?_
        exact ih_23 cs1 u1 u2 u3 u4 u5 (u6 + 1) h _ _ _ hP hD hS (lv_sub hl [1, 2, 3, 4, 5, 6, 0] rfl)
      have B_109 : ∀ (cs1 : RS) (u1 : Int32) (u2 : Int32) (u3 : Int32) (u4 : Int32) (u5 : Int32) (u6 : Int32) (u7 : Int32), m_setOf_b109 F (m_setOf_L23 F lf_23) cs1 u1 u2 u3 u4 u5 u6 u7 = some (cs9, r9) → ∀ (H : Heap) (locs : List Loc) (ls : Array Slot), va_P (dC, dI) vwCl (mW cB cI cJ cZ h0 a cs1) H → va_D A (mW cB cI cJ cZ h0 a cs1) → va_S A s.heap H locs → lv_has ls 9 [(0, .ref h0), (1, .int u1), (2, .int u2), (3, .int u3), (4, .int u4), (5, .int u5), (6, .int u6), (7, .int u7)] → W p l e (headSpec (wsOf yX12_setOf cX12_setOf 9 (some .int)) ({ frames := 3, cells := 0, slots := 0, locals := 60 * (3) } : Room)).room s m ([.ref h0, .int x1, .int x2, .int x3] : List Value).toArray below meth c H locs 0 0 (MQ below (va_Qi (fun (x : Int32) (_ : Unit) => x = r9) (fun _ t_ => va_P (dC, dI) vwCl (mW cB cI cJ cZ h0 a cs9) t_.heap ∧ va_D A (mW cB cI cJ cZ h0 a cs9)) A) ([.ref h0, .int x1, .int x2, .int x3] : List Value).toArray s 0 0 A) (F0 m 109 ls []) := by
        intro cs1 u1 u2 u3 u4 u5 u6 u7 h H locs ls hP hD hS hl
        unfold m_setOf_b109 at h
        refine lv_aload_n hx hb dX12_setOf_109 rfl (lv_at hl 0 rfl) ?_
        refine lv_iload hx hb dX12_setOf_110 (lv_at hl 7 rfl) ?_
        refine lv_aload_n hx hb dX12_setOf_112 rfl (lv_at hl 0 rfl) ?_
        refine lv_iload hx hb dX12_setOf_113 (lv_at hl 4 rfl) ?_
        obtain ⟨z_11, hv_11, h⟩ := ob h
        refine calI (As := [.int u4]) hx hb hml hts hown hK hP hD hS hA hZ (s_newRow l dC dI cB cI cJ cZ h0 a K V fz F cs1 u4 z_11.1 z_11.2 hv_11) (cw_newRow hts (fr := 0) (Nat.le_of_ble_eq_true rfl) (Nat.le_of_ble_eq_true rfl)) rfl hl.1 (Nat.le_of_ble_eq_true rfl) ⟨Nat.zero_le _, Nat.zero_le _⟩ dX12_setOf_115 (fun H locs hP hD hS => ?_)
        refine lv_iload hx hb dX12_setOf_118 (lv_at hl 5 rfl) ?_
        obtain ⟨cs_12, hv_12, h⟩ := ob h
        refine calV (As := [.int u7, .int z_11.2, .int u5]) hx hb hml hts hown hK hP hD hS hA hZ (s_copy l dC dI cB cI cJ cZ h0 a K V fz F z_11.1 u7 z_11.2 u5 cs_12 hv_12) (cw_copy hts (fr := 0) (Nat.le_of_ble_eq_true rfl) (Nat.le_of_ble_eq_true rfl)) rfl hl.1 (Nat.le_of_ble_eq_true rfl) ⟨Nat.zero_le _, Nat.zero_le _⟩ dX12_setOf_120 (fun H locs hP hD hS => ?_)
        exact B_123 cs_12 u1 u2 u3 u4 u5 u6 h _ _ _ hP hD hS (lv_sub hl [0, 1, 2, 3, 4, 5, 6] rfl)
      have B_79 : ∀ (cs1 : RS) (u1 : Int32) (u2 : Int32) (u3 : Int32) (u4 : Int32) (u5 : Int32) (u6 : Int32) (u7 : Int32) (y0 : Int32), m_setOf_b79 F (m_setOf_L23 F lf_23) cs1 u1 u2 u3 u4 u5 u6 u7 y0 = some (cs9, r9) → ∀ (H : Heap) (locs : List Loc) (ls : Array Slot), va_P (dC, dI) vwCl (mW cB cI cJ cZ h0 a cs1) H → va_D A (mW cB cI cJ cZ h0 a cs1) → va_S A s.heap H locs → lv_has ls 9 [(0, .ref h0), (1, .int u1), (2, .int u2), (3, .int u3), (4, .int u4), (5, .int u5), (6, .int u6), (7, .int u7)] → W p l e (headSpec (wsOf yX12_setOf cX12_setOf 9 (some .int)) ({ frames := 3, cells := 0, slots := 0, locals := 60 * (3) } : Room)).room s m ([.ref h0, .int x1, .int x2, .int x3] : List Value).toArray below meth c H locs 0 0 (MQ below (va_Qi (fun (x : Int32) (_ : Unit) => x = r9) (fun _ t_ => va_P (dC, dI) vwCl (mW cB cI cJ cZ h0 a cs9) t_.heap ∧ va_D A (mW cB cI cJ cZ h0 a cs9)) A) ([.ref h0, .int x1, .int x2, .int x3] : List Value).toArray s 0 0 A) (F0 m 79 ls [.int y0]) := by
        intro cs1 u1 u2 u3 u4 u5 u6 u7 y0 h H locs ls hP hD hS hl
        unfold m_setOf_b79 at h
        refine lv_istore (lv' := [(8, .int y0), (0, .ref h0), (1, .int u1), (2, .int u2), (3, .int u3), (4, .int u4), (5, .int u5), (6, .int u6), (7, .int u7)]) hx hb dX12_setOf_79 hl (by decide) rfl (fun ls hl => ?_)
        refine lv_iload hx hb dX12_setOf_81 (lv_at hl 0 rfl) ?_
        refine lv_if_eq (tgt := 123) hx hb dX12_setOf_83 (by decide) (fun c_13 => ?_) (fun c_13 => ?_)
        · skip
          replace h := (if_pos c_13).symm.trans h
          exact B_123 cs1 u1 u2 u3 u4 u5 u6 h _ _ _ hP hD hS (lv_sub hl [1, 2, 3, 4, 5, 6, 7] rfl)
        · skip
          replace h := (if_neg c_13).symm.trans h
          refine lv_iload_n hx hb dX12_setOf_86 rfl (lv_at hl 2 rfl) ?_
          refine lv_iconst (v := 1) hx hb dX12_setOf_87 (by decide) ?_
          refine lv_icmp_eq (tgt := 109) hx hb dX12_setOf_88 (by decide) (fun c_14 => ?_) (fun c_14 => ?_)
          · skip
            replace h := (if_pos c_14).symm.trans h
            exact B_109 cs1 u1 u2 u3 u4 u5 u6 u7 h _ _ _ hP hD hS (lv_sub hl [1, 2, 3, 4, 5, 6, 7, 8] rfl)
          · skip
            replace h := (if_neg c_14).symm.trans h
            refine lv_aload_n hx hb dX12_setOf_91 rfl (lv_at hl 1 rfl) ?_
            refine lv_iload hx hb dX12_setOf_92 (lv_at hl 5 rfl) ?_
            refine lv_iload hx hb dX12_setOf_94 (lv_at hl 8 rfl) ?_
            refine lv_aload_n hx hb dX12_setOf_96 rfl (lv_at hl 1 rfl) ?_
            refine fg_89 hx hb hts hown hK hP dX12_setOf_97 ?_
            refine lv_iload hx hb dX12_setOf_100 (lv_at hl 5 rfl) ?_
            obtain ⟨v_15, hv_15, h⟩ := ob h
            refine ag_89 hx hb hK hP hv_15 dX12_setOf_102 ?_
            obtain ⟨v_16, hv_16, h⟩ := ob h
            refine calI (As := [.int u4, .int u7, .int v_15]) hx hb hml hts hown hK hP hD hS hA hZ (s_hasRow l dC dI cB cI cJ cZ h0 a K V fz F cs1 u4 u7 v_15 v_16 hv_16) (cw_hasRow hts (fr := 2) (Nat.le_of_ble_eq_true rfl) (Nat.le_of_ble_eq_true rfl)) rfl hl.1 (Nat.le_of_ble_eq_true rfl) ⟨Nat.zero_le _, Nat.zero_le _⟩ dX12_setOf_103 (fun H locs hP hD hS => ?_)
            refine lv_if_ne (tgt := 123) hx hb dX12_setOf_106 (by decide) (fun c_17 => ?_) (fun c_17 => ?_)
            · skip
              replace h := (if_neg c_17).symm.trans h
              exact B_123 cs1 u1 u2 u3 u4 u5 u6 h _ _ _ hP hD hS (lv_sub hl [1, 2, 3, 4, 5, 6, 7] rfl)
            · skip
              replace h := (if_pos c_17).symm.trans h
              exact B_109 cs1 u1 u2 u3 u4 u5 u6 u7 h _ _ _ hP hD hS (lv_sub hl [1, 2, 3, 4, 5, 6, 7, 8] rfl)
      have B_74 : ∀ (cs1 : RS) (u1 : Int32) (u2 : Int32) (u3 : Int32) (u4 : Int32) (u5 : Int32) (u6 : Int32) (u7 : Int32), m_setOf_b74 F (m_setOf_L23 F lf_23) cs1 u1 u2 u3 u4 u5 u6 u7 = some (cs9, r9) → ∀ (H : Heap) (locs : List Loc) (ls : Array Slot), va_P (dC, dI) vwCl (mW cB cI cJ cZ h0 a cs1) H → va_D A (mW cB cI cJ cZ h0 a cs1) → va_S A s.heap H locs → lv_has ls 9 [(0, .ref h0), (1, .int u1), (2, .int u2), (3, .int u3), (4, .int u4), (5, .int u5), (6, .int u6), (7, .int u7)] → W p l e (headSpec (wsOf yX12_setOf cX12_setOf 9 (some .int)) ({ frames := 3, cells := 0, slots := 0, locals := 60 * (3) } : Room)).room s m ([.ref h0, .int x1, .int x2, .int x3] : List Value).toArray below meth c H locs 0 0 (MQ below (va_Qi (fun (x : Int32) (_ : Unit) => x = r9) (fun _ t_ => va_P (dC, dI) vwCl (mW cB cI cJ cZ h0 a cs9) t_.heap ∧ va_D A (mW cB cI cJ cZ h0 a cs9)) A) ([.ref h0, .int x1, .int x2, .int x3] : List Value).toArray s 0 0 A) (F0 m 74 ls []) := by
        intro cs1 u1 u2 u3 u4 u5 u6 u7 h H locs ls hP hD hS hl
        unfold m_setOf_b74 at h
        refine lv_iconst (v := 1) hx hb dX12_setOf_74 (by decide) ?_
        refine lv_goto (tgt := 79) hx hb dX12_setOf_75 (by decide) ?_
        exact B_79 cs1 u1 u2 u3 u4 u5 u6 u7 1 h _ _ _ hP hD hS (lv_sub hl [0, 1, 2, 3, 4, 5, 6, 7] rfl)
      have B_71 : ∀ (cs1 : RS) (u1 : Int32) (u2 : Int32) (u3 : Int32) (u4 : Int32) (u5 : Int32) (u6 : Int32) (u7 : Int32) (y0 : Int32) (y1 : Int32), m_setOf_b71 F (m_setOf_L23 F lf_23) cs1 u1 u2 u3 u4 u5 u6 u7 y0 y1 = some (cs9, r9) → ∀ (H : Heap) (locs : List Loc) (ls : Array Slot), va_P (dC, dI) vwCl (mW cB cI cJ cZ h0 a cs1) H → va_D A (mW cB cI cJ cZ h0 a cs1) → va_S A s.heap H locs → lv_has ls 9 [(0, .ref h0), (1, .int u1), (2, .int u2), (3, .int u3), (4, .int u4), (5, .int u5), (6, .int u6), (7, .int u7)] → W p l e (headSpec (wsOf yX12_setOf cX12_setOf 9 (some .int)) ({ frames := 3, cells := 0, slots := 0, locals := 60 * (3) } : Room)).room s m ([.ref h0, .int x1, .int x2, .int x3] : List Value).toArray below meth c H locs 0 0 (MQ below (va_Qi (fun (x : Int32) (_ : Unit) => x = r9) (fun _ t_ => va_P (dC, dI) vwCl (mW cB cI cJ cZ h0 a cs9) t_.heap ∧ va_D A (mW cB cI cJ cZ h0 a cs9)) A) ([.ref h0, .int x1, .int x2, .int x3] : List Value).toArray s 0 0 A) (F0 m 71 ls [.int y0, .int y1]) := by
        intro cs1 u1 u2 u3 u4 u5 u6 u7 y0 y1 h H locs ls hP hD hS hl
        unfold m_setOf_b71 at h
        refine lv_icmp_ne (tgt := 78) hx hb dX12_setOf_71 (by decide) (fun c_18 => ?_) (fun c_18 => ?_)
        · skip
          replace h := (if_neg c_18).symm.trans h
          refine lv_iconst (v := 0) hx hb dX12_setOf_78 (by decide) ?_
          exact B_79 cs1 u1 u2 u3 u4 u5 u6 u7 0 h _ _ _ hP hD hS (lv_sub hl [0, 1, 2, 3, 4, 5, 6, 7] rfl)
        · skip
          replace h := (if_pos c_18).symm.trans h
          exact B_74 cs1 u1 u2 u3 u4 u5 u6 u7 h _ _ _ hP hD hS (lv_sub hl [0, 1, 2, 3, 4, 5, 6, 7] rfl)
      intro cs1 u1 u2 u3 u4 u5 u6 h H locs ls hP hD hS hl
      rw [m_setOf_L23] at h
      refine lv_iload hx hb dX12_setOf_23 (lv_at hl 6 rfl) ?_
      refine lv_aload_n hx hb dX12_setOf_25 rfl (lv_at hl 0 rfl) ?_
      refine fg_89 hx hb hts hown hK hP dX12_setOf_26 ?_
      refine lv_iload_n hx hb dX12_setOf_29 rfl (lv_at hl 2 rfl) ?_
      obtain ⟨v_19, hv_19, h⟩ := ob h
      refine ag_89 hx hb hK hP hv_19 dX12_setOf_30 ?_
      refine lv_icmp_ge (tgt := 129) hx hb dX12_setOf_31 (by decide) (fun c_20 => ?_) (fun c_20 => ?_)
      · skip
        replace h := (if_pos c_20).symm.trans h
        refine lv_iconst (v := 0) hx hb dX12_setOf_129 (by decide) ?_
        refine lv_istore (lv' := [(6, .int 0), (0, .ref h0), (1, .int u1), (2, .int u2), (3, .int u3), (4, .int u4), (5, .int u5)]) hx hb dX12_setOf_130 hl (by decide) rfl (fun ls hl => ?_)
        exact L_132 F cs1 u1 u3 u4 u5 0 h _ _ _ hP hD hS (lv_sub hl [1, 2, 4, 5, 6, 0] rfl)
      · skip
        replace h := (if_neg c_20).symm.trans h
        refine lv_aload_n hx hb dX12_setOf_34 rfl (lv_at hl 0 rfl) ?_
        refine lv_iload_n hx hb dX12_setOf_35 rfl (lv_at hl 2 rfl) ?_
        refine lv_iload hx hb dX12_setOf_36 (lv_at hl 6 rfl) ?_
        obtain ⟨v_21, hv_21, h⟩ := ob h
        refine calI (As := [.int u2, .int u6]) hx hb hml hts hown hK hP hD hS hA hZ (s_rowAt l dC dI cB cI cJ cZ h0 a K V fz F cs1 u2 u6 v_21 hv_21) (cw_rowAt hts (fr := 0) (Nat.le_of_ble_eq_true rfl) (Nat.le_of_ble_eq_true rfl)) rfl hl.1 (Nat.le_of_ble_eq_true rfl) ⟨Nat.zero_le _, Nat.zero_le _⟩ dX12_setOf_38 (fun H locs hP hD hS => ?_)
        refine lv_istore (lv' := [(7, .int v_21), (0, .ref h0), (1, .int u1), (2, .int u2), (3, .int u3), (4, .int u4), (5, .int u5), (6, .int u6)]) hx hb dX12_setOf_41 hl (by decide) rfl (fun ls hl => ?_)
        refine lv_iload_n hx hb dX12_setOf_43 rfl (lv_at hl 2 rfl) ?_
        refine lv_iconst (v := 2) hx hb dX12_setOf_44 (by decide) ?_
        refine lv_icmp_le (tgt := 74) hx hb dX12_setOf_45 (by decide) (fun c_22 => ?_) (fun c_22 => ?_)
        · skip
          replace h := (if_pos c_22).symm.trans h
          exact B_74 cs1 u1 u2 u3 u4 u5 u6 v_21 h _ _ _ hP hD hS (lv_sub hl [1, 2, 3, 4, 5, 6, 7, 0] rfl)
        · skip
          replace h := (if_neg c_22).symm.trans h
          refine lv_aload_n hx hb dX12_setOf_48 rfl (lv_at hl 1 rfl) ?_
          refine lv_iload_n hx hb dX12_setOf_49 rfl (lv_at hl 4 rfl) ?_
          refine lv_iload hx hb dX12_setOf_50 (lv_at hl 0 rfl) ?_
          refine lv_aload_n hx hb dX12_setOf_52 rfl (lv_at hl 1 rfl) ?_
          refine fg_89 hx hb hts hown hK hP dX12_setOf_53 ?_
          refine lv_iload_n hx hb dX12_setOf_56 rfl (lv_at hl 4 rfl) ?_
          obtain ⟨v_23, hv_23, h⟩ := ob h
          refine ag_89 hx hb hK hP hv_23 dX12_setOf_57 ?_
          obtain ⟨v_24, hv_24, h⟩ := ob h
          refine calI (As := [.int u3, .int v_21, .int v_23]) hx hb hml hts hown hK hP hD hS hA hZ (s_hasRow l dC dI cB cI cJ cZ h0 a K V fz F cs1 u3 v_21 v_23 v_24 hv_24) (cw_hasRow hts (fr := 2) (Nat.le_of_ble_eq_true rfl) (Nat.le_of_ble_eq_true rfl)) rfl hl.1 (Nat.le_of_ble_eq_true rfl) ⟨Nat.zero_le _, Nat.zero_le _⟩ dX12_setOf_58 (fun H locs hP hD hS => ?_)
          refine lv_iload_n hx hb dX12_setOf_61 rfl (lv_at hl 2 rfl) ?_
          refine lv_iconst (v := 4) hx hb dX12_setOf_62 (by decide) ?_
          refine lv_icmp_ne (tgt := 70) hx hb dX12_setOf_63 (by decide) (fun c_25 => ?_) (fun c_25 => ?_)
          · skip
            replace h := (if_neg c_25).symm.trans h
            refine lv_iconst (v := 0) hx hb dX12_setOf_70 (by decide) ?_
            exact B_71 cs1 u1 u2 u3 u4 u5 u6 v_21 0 v_24 h _ _ _ hP hD hS (lv_sub hl [1, 2, 3, 4, 5, 6, 7, 0] rfl)
          · skip
            replace h := (if_pos c_25).symm.trans h
            refine lv_iconst (v := 1) hx hb dX12_setOf_66 (by decide) ?_
            refine lv_goto (tgt := 71) hx hb dX12_setOf_67 (by decide) ?_
            exact B_71 cs1 u1 u2 u3 u4 u5 u6 v_21 1 v_24 h _ _ _ hP hD hS (lv_sub hl [1, 2, 3, 4, 5, 6, 7, 0] rfl)
  have h := hf
  unfold m_setOf at h
  refine lv_aload_n hx hb dX12_setOf_0 rfl (lv_at hl 0 rfl) ?_
  refine lv_aload_n hx hb dX12_setOf_1 rfl (lv_at hl 0 rfl) ?_
  refine fg_90 hx hb hts hown hK hP dX12_setOf_2 ?_
  refine lv_iload_n hx hb dX12_setOf_5 rfl (lv_at hl 2 rfl) ?_
  obtain ⟨v_26, hv_26, h⟩ := ob h
  refine ag_90 hx hb hK hP hv_26 dX12_setOf_6 ?_
  obtain ⟨z_27, hv_27, h⟩ := ob h
  refine calI (As := [.int v_26]) hx hb hml hts hown hK hP hD hS hA hZ (s_relation l dC dI cB cI cJ cZ h0 a K V fz F cs v_26 z_27.1 z_27.2 hv_27) (cw_relation hts (fr := 0) (Nat.le_of_ble_eq_true rfl) (Nat.le_of_ble_eq_true rfl)) rfl hl.1 (Nat.le_of_ble_eq_true rfl) ⟨Nat.zero_le _, Nat.zero_le _⟩ dX12_setOf_7 (fun H locs hP hD hS => ?_)
  refine lv_istore (lv' := [(4, .int z_27.2), (0, .ref h0), (1, .int x1), (2, .int x2), (3, .int x3)]) hx hb dX12_setOf_10 hl (by decide) rfl (fun ls hl => ?_)
  refine lv_aload_n hx hb dX12_setOf_12 rfl (lv_at hl 1 rfl) ?_
  refine fg_90 hx hb hts hown hK hP dX12_setOf_13 ?_
  refine lv_iload_n hx hb dX12_setOf_16 rfl (lv_at hl 3 rfl) ?_
  obtain ⟨v_28, hv_28, h⟩ := ob h
  refine ag_90 hx hb hK hP hv_28 dX12_setOf_17 ?_
  refine lv_istore (lv' := [(5, .int v_28), (4, .int z_27.2), (0, .ref h0), (1, .int x1), (2, .int x2), (3, .int x3)]) hx hb dX12_setOf_18 hl (by decide) rfl (fun ls hl => ?_)
  refine lv_iconst (v := 0) hx hb dX12_setOf_20 (by decide) ?_
  refine lv_istore (lv' := [(6, .int 0), (5, .int v_28), (4, .int z_27.2), (0, .ref h0), (1, .int x1), (2, .int x2), (3, .int x3)]) hx hb dX12_setOf_21 hl (by decide) rfl (fun ls hl => ?_)
  exact L_23 F z_27.1 x1 x2 x3 z_27.2 v_28 0 h _ _ _ hP hD hS (lv_sub hl [3, 4, 5, 6, 2, 1, 0] rfl)
theorem cw_setOf {R : Room} {s : State} {args : Array Value} {y0 : MethodName} {c0 : ByteArray} {n0 : Nat} {r0 : Option FieldType} (hts : ∀ w ∈ wsOf y0 c0 n0 r0, w.before args s = true) {fr : Nat} (h1 : fr + 1 ≤ R.frames) (h2 : 8 + (9 + 11) + 60 * fr ≤ R.locals) : CallW R s args RX12 RX12 703 yX12_setOf cX12_setOf 9 (some .int) (wsOf yX12_setOf cX12_setOf 9 (some .int)) ({ frames := fr, cells := 0, slots := 0, locals := 60 * fr } : Room) 0 0 3 := cwV 3 hts (gd_all (in_V kw_2184 kw_2186 kw_125 kw_191 kc_X12_setOf)) rfl rfl rfl (by decide +kernel) ⟨h1, h2⟩
theorem dX12_ahead_0 : decode cX12_ahead 0 = .ok (.iconst 0, 1) := by decide +kernel
theorem dX12_ahead_1 : decode cX12_ahead 1 = .ok (.istore 6, 2) := by decide +kernel
theorem dX12_ahead_3 : decode cX12_ahead 3 = .ok (.iload 6, 2) := by decide +kernel
theorem dX12_ahead_5 : decode cX12_ahead 5 = .ok (.aload_n 0, 1) := by decide +kernel
theorem dX12_ahead_6 : decode cX12_ahead 6 = .ok (.getfield 169, 3) := by decide +kernel
theorem dX12_ahead_9 : decode cX12_ahead 9 = .ok (.iload_n 1, 1) := by decide +kernel
theorem dX12_ahead_10 : decode cX12_ahead 10 = .ok (.iaload, 1) := by decide +kernel
theorem dX12_ahead_11 : decode cX12_ahead 11 = .ok (.if_icmp .ge 110, 3) := by decide +kernel
theorem dX12_ahead_14 : decode cX12_ahead 14 = .ok (.aload_n 0, 1) := by decide +kernel
theorem dX12_ahead_15 : decode cX12_ahead 15 = .ok (.iload_n 3, 1) := by decide +kernel
theorem dX12_ahead_16 : decode cX12_ahead 16 = .ok (.iload 4, 2) := by decide +kernel
theorem dX12_ahead_18 : decode cX12_ahead 18 = .ok (.invokevirtual 653, 3) := by decide +kernel
theorem dX12_ahead_21 : decode cX12_ahead 21 = .ok (.iload 6, 2) := by decide +kernel
theorem dX12_ahead_23 : decode cX12_ahead 23 = .ok (.iadd, 1) := by decide +kernel
theorem dX12_ahead_24 : decode cX12_ahead 24 = .ok (.istore 7, 2) := by decide +kernel
theorem dX12_ahead_26 : decode cX12_ahead 26 = .ok (.aload_n 0, 1) := by decide +kernel
theorem dX12_ahead_27 : decode cX12_ahead 27 = .ok (.iload_n 3, 1) := by decide +kernel
theorem dX12_ahead_28 : decode cX12_ahead 28 = .ok (.iload 5, 2) := by decide +kernel
theorem dX12_ahead_30 : decode cX12_ahead 30 = .ok (.invokevirtual 653, 3) := by decide +kernel
theorem dX12_ahead_33 : decode cX12_ahead 33 = .ok (.iload 6, 2) := by decide +kernel
theorem dX12_ahead_35 : decode cX12_ahead 35 = .ok (.iadd, 1) := by decide +kernel
theorem dX12_ahead_36 : decode cX12_ahead 36 = .ok (.istore 8, 2) := by decide +kernel
theorem dX12_ahead_38 : decode cX12_ahead 38 = .ok (.aload_n 0, 1) := by decide +kernel
theorem dX12_ahead_39 : decode cX12_ahead 39 = .ok (.getfield 194, 3) := by decide +kernel
theorem dX12_ahead_42 : decode cX12_ahead 42 = .ok (.iload 7, 2) := by decide +kernel
theorem dX12_ahead_44 : decode cX12_ahead 44 = .ok (.laload, 1) := by decide +kernel
theorem dX12_ahead_45 : decode cX12_ahead 45 = .ok (.aload_n 0, 1) := by decide +kernel
theorem dX12_ahead_46 : decode cX12_ahead 46 = .ok (.getfield 197, 3) := by decide +kernel
theorem dX12_ahead_49 : decode cX12_ahead 49 = .ok (.iload 7, 2) := by decide +kernel
theorem dX12_ahead_51 : decode cX12_ahead 51 = .ok (.baload, 1) := by decide +kernel
theorem dX12_ahead_52 : decode cX12_ahead 52 = .ok (.aload_n 0, 1) := by decide +kernel
theorem dX12_ahead_53 : decode cX12_ahead 53 = .ok (.getfield 194, 3) := by decide +kernel
theorem dX12_ahead_56 : decode cX12_ahead 56 = .ok (.iload 8, 2) := by decide +kernel
theorem dX12_ahead_58 : decode cX12_ahead 58 = .ok (.laload, 1) := by decide +kernel
theorem dX12_ahead_59 : decode cX12_ahead 59 = .ok (.aload_n 0, 1) := by decide +kernel
theorem dX12_ahead_60 : decode cX12_ahead 60 = .ok (.getfield 197, 3) := by decide +kernel
theorem dX12_ahead_63 : decode cX12_ahead 63 = .ok (.iload 8, 2) := by decide +kernel
theorem dX12_ahead_65 : decode cX12_ahead 65 = .ok (.baload, 1) := by decide +kernel
theorem dX12_ahead_66 : decode cX12_ahead 66 = .ok (.invokestatic 596, 3) := by decide +kernel
theorem dX12_ahead_69 : decode cX12_ahead 69 = .ok (.istore 9, 2) := by decide +kernel
theorem dX12_ahead_71 : decode cX12_ahead 71 = .ok (.iload 9, 2) := by decide +kernel
theorem dX12_ahead_73 : decode cX12_ahead 73 = .ok (.ifCond .eq 42, 3) := by decide +kernel
theorem dX12_ahead_76 : decode cX12_ahead 76 = .ok (.aload_n 0, 1) := by decide +kernel
theorem dX12_ahead_77 : decode cX12_ahead 77 = .ok (.getfield 178, 3) := by decide +kernel
theorem dX12_ahead_80 : decode cX12_ahead 80 = .ok (.bipush 8, 2) := by decide +kernel
theorem dX12_ahead_82 : decode cX12_ahead 82 = .ok (.iload_n 1, 1) := by decide +kernel
theorem dX12_ahead_83 : decode cX12_ahead 83 = .ok (.imul, 1) := by decide +kernel
theorem dX12_ahead_84 : decode cX12_ahead 84 = .ok (.iload 6, 2) := by decide +kernel
theorem dX12_ahead_86 : decode cX12_ahead 86 = .ok (.iadd, 1) := by decide +kernel
theorem dX12_ahead_87 : decode cX12_ahead 87 = .ok (.baload, 1) := by decide +kernel
theorem dX12_ahead_88 : decode cX12_ahead 88 = .ok (.ifCond .eq 16, 3) := by decide +kernel
theorem dX12_ahead_91 : decode cX12_ahead 91 = .ok (.iload 9, 2) := by decide +kernel
theorem dX12_ahead_93 : decode cX12_ahead 93 = .ok (.ifCond .le 7, 3) := by decide +kernel
theorem dX12_ahead_96 : decode cX12_ahead 96 = .ok (.iconst 1, 1) := by decide +kernel
theorem dX12_ahead_97 : decode cX12_ahead 97 = .ok (.goto 17, 3) := by decide +kernel
theorem dX12_ahead_100 : decode cX12_ahead 100 = .ok (.iconst 0, 1) := by decide +kernel
theorem dX12_ahead_101 : decode cX12_ahead 101 = .ok (.goto 13, 3) := by decide +kernel
theorem dX12_ahead_104 : decode cX12_ahead 104 = .ok (.iload 9, 2) := by decide +kernel
theorem dX12_ahead_106 : decode cX12_ahead 106 = .ok (.ifCond .ge 7, 3) := by decide +kernel
theorem dX12_ahead_109 : decode cX12_ahead 109 = .ok (.iconst 1, 1) := by decide +kernel
theorem dX12_ahead_110 : decode cX12_ahead 110 = .ok (.goto 4, 3) := by decide +kernel
theorem dX12_ahead_113 : decode cX12_ahead 113 = .ok (.iconst 0, 1) := by decide +kernel
theorem dX12_ahead_114 : decode cX12_ahead 114 = .ok (.ireturn, 1) := by decide +kernel
theorem dX12_ahead_115 : decode cX12_ahead 115 = .ok (.iinc 6 1, 3) := by decide +kernel
theorem dX12_ahead_118 : decode cX12_ahead 118 = .ok (.goto (-115), 3) := by decide +kernel
theorem dX12_ahead_121 : decode cX12_ahead 121 = .ok (.aload_n 0, 1) := by decide +kernel
theorem dX12_ahead_122 : decode cX12_ahead 122 = .ok (.aload_n 0, 1) := by decide +kernel
theorem dX12_ahead_123 : decode cX12_ahead 123 = .ok (.iload_n 2, 1) := by decide +kernel
theorem dX12_ahead_124 : decode cX12_ahead 124 = .ok (.iload 4, 2) := by decide +kernel
theorem dX12_ahead_126 : decode cX12_ahead 126 = .ok (.invokevirtual 653, 3) := by decide +kernel
theorem dX12_ahead_129 : decode cX12_ahead 129 = .ok (.aload_n 0, 1) := by decide +kernel
theorem dX12_ahead_130 : decode cX12_ahead 130 = .ok (.iload_n 2, 1) := by decide +kernel
theorem dX12_ahead_131 : decode cX12_ahead 131 = .ok (.iload 5, 2) := by decide +kernel
theorem dX12_ahead_133 : decode cX12_ahead 133 = .ok (.invokevirtual 653, 3) := by decide +kernel
theorem dX12_ahead_136 : decode cX12_ahead 136 = .ok (.aload_n 0, 1) := by decide +kernel
theorem dX12_ahead_137 : decode cX12_ahead 137 = .ok (.getfield 206, 3) := by decide +kernel
theorem dX12_ahead_140 : decode cX12_ahead 140 = .ok (.iload_n 2, 1) := by decide +kernel
theorem dX12_ahead_141 : decode cX12_ahead 141 = .ok (.iaload, 1) := by decide +kernel
theorem dX12_ahead_142 : decode cX12_ahead 142 = .ok (.invokevirtual 693, 3) := by decide +kernel
theorem dX12_ahead_145 : decode cX12_ahead 145 = .ok (.ifCond .ge 7, 3) := by decide +kernel
theorem dX12_ahead_148 : decode cX12_ahead 148 = .ok (.iconst 1, 1) := by decide +kernel
theorem dX12_ahead_149 : decode cX12_ahead 149 = .ok (.goto 4, 3) := by decide +kernel
theorem dX12_ahead_152 : decode cX12_ahead 152 = .ok (.iconst 0, 1) := by decide +kernel
theorem dX12_ahead_153 : decode cX12_ahead 153 = .ok (.ireturn, 1) := by decide +kernel
def m_ahead_b114 (F : Nat) (cs : RS) (y0 : Int32) : Option Int32 := Option.bind (ckZ y0) fun _ => some y0
def m_ahead_b153 (F : Nat) (cs : RS) (y0 : Int32) : Option Int32 := Option.bind (ckZ y0) fun _ => some y0
def m_ahead_L3 (F : Nat) (cs : RS) : Nat → Int32 → Int32 → Int32 → Int32 → Int32 → Int32 → Option Int32
  | 0, _, _, _, _, _, _ => none
  | lf_3 + 1, u1, u2, u3, u4, u5, u6 => Option.bind (rdI (cs.2.2.1 64) 60 u1) fun v_3 => if v_3 ≤ u6 then (Option.bind (m_rowAt F cs u2 u4) fun v_5 => Option.bind (m_rowAt F cs u2 u5) fun v_6 => Option.bind (rdI (cs.2.2.1 90) 400 u2) fun v_7 => Option.bind (m_compareRows F cs v_5 v_6 v_7) fun v_8 => if 0 ≤ v_8 then (m_ahead_b153 F cs 0) else (m_ahead_b153 F cs 1)) else (Option.bind (m_rowAt F cs u3 u4) fun v_10 => Option.bind (m_rowAt F cs u3 u5) fun v_11 => Option.bind (rdL (cs.2.2.2 85) 400000 (v_10 + u6)) fun v_12 => Option.bind (rdI (cs.2.2.1 86) 400000 (v_10 + u6)) fun v_13 => Option.bind (rdL (cs.2.2.2 85) 400000 (v_11 + u6)) fun v_14 => Option.bind (rdI (cs.2.2.1 86) 400000 (v_11 + u6)) fun v_15 => Option.bind (m_compare F cs v_12 v_13 v_14 v_15) fun v_16 => if v_16 = 0 then ((m_ahead_L3 F cs lf_3) u1 u2 u3 u4 u5 (u6 + 1)) else (Option.bind (rdI (cs.2.2.1 67) 480 ((8 * u1) + u6)) fun v_18 => if v_18 = 0 then (if 0 ≤ v_16 then (m_ahead_b114 F cs 0) else (m_ahead_b114 F cs 1)) else (if v_16 ≤ 0 then (m_ahead_b114 F cs 0) else (m_ahead_b114 F cs 1))))
def m_ahead (F : Nat) (cs : RS) (x1 : Int32) (x2 : Int32) (x3 : Int32) (x4 : Int32) (x5 : Int32) : Option Int32 := m_ahead_L3 F cs F x1 x2 x3 x4 x5 0
set_option maxHeartbeats 4000000 in
set_option maxRecDepth 100000 in
theorem s_ahead (l : Launch) (dC : Nat → ClassId) (dI : Nat → Nat → Nat) (cB cI cJ cZ : ClassId) (h0 : Nat) (a : Nat → Nat) (K V : Nat → Nat) (fz : Value) (F : Nat) (cs : RS) (x1 : Int32) (x2 : Int32) (x3 : Int32) (x4 : Int32) (x5 : Int32) (r9 : Int32) (hf : m_ahead F cs x1 x2 x3 x4 x5 = some r9) : okI l dC dI cB cI cJ cZ h0 a K V fz yX12_ahead (wsOf yX12_ahead cX12_ahead 10 (some .boolean)) (2) [.ref h0, .int x1, .int x2, .int x3, .int x4, .int x5] cs cs r9 := by
  intro sz
  refine Met.ofW (cc := cX12_ahead) (maxL := 10) (ret := (some .boolean)) (by decide) rfl ?_
  intro p e s m args below meth c s₁ B hml hv
  obtain ⟨rfl, hsz, hP, hK, hD0, hZ⟩ := hv
  have hx := B.exec
  have hb := B.bytes
  have hr := B.returns
  have hts := atoms_spec (ws := (wsOf yX12_ahead cX12_ahead 10 (some .boolean))) B.pre
  have hown : s.vm.findClass RX12 = some m.cls := findClass_of_methodNamed B.named
  have hlocks := B.notSynchronized
  subst hsz
  have hD := hD0.self (sz := s.heap.size)
  generalize hAe : va_A (mW cB cI cJ cZ h0 a cs) s.heap.size = A at hD hZ ⊢
  have hA : ∀ q : Nat, s.heap.size ≤ q → A q := fun q h => by rw [← hAe]; exact Or.inr h
  have hS : va_S A s.heap s.heap [] := va_S.rf
  have hl := lv_entry ([.ref h0, .int x1, .int x2, .int x3, .int x4, .int x5]) (n := 10) (Nat.le_of_ble_eq_true rfl)
  rw [lg_entry_eq]
  generalize (lg_sl ([.ref h0, .int x1, .int x2, .int x3, .int x4, .int x5]) ++ List.replicate (10 - (lg_sl ([.ref h0, .int x1, .int x2, .int x3, .int x4, .int x5])).length) Slot.unset).toArray = ls at hl ⊢
  have hl : lv_has ls 10 [(0, .ref h0), (1, .int x1), (2, .int x2), (3, .int x3), (4, .int x4), (5, .int x5)] := hl
  have B_114 : ∀ (y0 : Int32), m_ahead_b114 F cs y0 = some r9 → ∀ (H : Heap) (locs : List Loc) (ls : Array Slot), va_P (dC, dI) vwCl (mW cB cI cJ cZ h0 a cs) H → va_D A (mW cB cI cJ cZ h0 a cs) → va_S A s.heap H locs → lv_has ls 10 [] → W p l e (headSpec (wsOf yX12_ahead cX12_ahead 10 (some .boolean)) ({ frames := 2, cells := 0, slots := 0, locals := 60 * (2) } : Room)).room s m ([.ref h0, .int x1, .int x2, .int x3, .int x4, .int x5] : List Value).toArray below meth c H locs 0 0 (MQ below (va_Qi (fun (x : Int32) (_ : Unit) => x = r9) (fun _ t_ => va_P (dC, dI) vwCl (mW cB cI cJ cZ h0 a cs) t_.heap ∧ va_D A (mW cB cI cJ cZ h0 a cs)) A) ([.ref h0, .int x1, .int x2, .int x3, .int x4, .int x5] : List Value).toArray s 0 0 A) (F0 m 114 ls [.int y0]) := by
    intro y0 h H locs ls hP hD hS hl
    unfold m_ahead_b114 at h
    obtain ⟨w_1, hw_1, h⟩ := ob h
    have e2 := Option.some.inj h
    exact W.zret (v := y0) hx hb hr (nzN (ckZ_some hw_1)) (fun t_ ht hW => ⟨⟨y0, (), rfl, e2, by rw [ht]; exact hP, hD⟩, hS.F ht⟩) hS.2.2 dX12_ahead_114
  have B_153 : ∀ (y0 : Int32), m_ahead_b153 F cs y0 = some r9 → ∀ (H : Heap) (locs : List Loc) (ls : Array Slot), va_P (dC, dI) vwCl (mW cB cI cJ cZ h0 a cs) H → va_D A (mW cB cI cJ cZ h0 a cs) → va_S A s.heap H locs → lv_has ls 10 [] → W p l e (headSpec (wsOf yX12_ahead cX12_ahead 10 (some .boolean)) ({ frames := 2, cells := 0, slots := 0, locals := 60 * (2) } : Room)).room s m ([.ref h0, .int x1, .int x2, .int x3, .int x4, .int x5] : List Value).toArray below meth c H locs 0 0 (MQ below (va_Qi (fun (x : Int32) (_ : Unit) => x = r9) (fun _ t_ => va_P (dC, dI) vwCl (mW cB cI cJ cZ h0 a cs) t_.heap ∧ va_D A (mW cB cI cJ cZ h0 a cs)) A) ([.ref h0, .int x1, .int x2, .int x3, .int x4, .int x5] : List Value).toArray s 0 0 A) (F0 m 153 ls [.int y0]) := by
    intro y0 h H locs ls hP hD hS hl
    unfold m_ahead_b153 at h
    obtain ⟨w_2, hw_2, h⟩ := ob h
    have e2 := Option.some.inj h
    exact W.zret (v := y0) hx hb hr (nzN (ckZ_some hw_2)) (fun t_ ht hW => ⟨⟨y0, (), rfl, e2, by rw [ht]; exact hP, hD⟩, hS.F ht⟩) hS.2.2 dX12_ahead_153
  have L_3 : ∀ (lf_3 : Nat), ∀ (u1 : Int32) (u2 : Int32) (u3 : Int32) (u4 : Int32) (u5 : Int32) (u6 : Int32), m_ahead_L3 F cs lf_3 u1 u2 u3 u4 u5 u6 = some r9 → ∀ (H : Heap) (locs : List Loc) (ls : Array Slot), va_P (dC, dI) vwCl (mW cB cI cJ cZ h0 a cs) H → va_D A (mW cB cI cJ cZ h0 a cs) → va_S A s.heap H locs → lv_has ls 10 [(0, .ref h0), (1, .int u1), (2, .int u2), (3, .int u3), (4, .int u4), (5, .int u5), (6, .int u6)] → W p l e (headSpec (wsOf yX12_ahead cX12_ahead 10 (some .boolean)) ({ frames := 2, cells := 0, slots := 0, locals := 60 * (2) } : Room)).room s m ([.ref h0, .int x1, .int x2, .int x3, .int x4, .int x5] : List Value).toArray below meth c H locs 0 0 (MQ below (va_Qi (fun (x : Int32) (_ : Unit) => x = r9) (fun _ t_ => va_P (dC, dI) vwCl (mW cB cI cJ cZ h0 a cs) t_.heap ∧ va_D A (mW cB cI cJ cZ h0 a cs)) A) ([.ref h0, .int x1, .int x2, .int x3, .int x4, .int x5] : List Value).toArray s 0 0 A) (F0 m 3 ls []) := by
    intro lf_3
    induction lf_3 with
    | zero => intro u1 u2 u3 u4 u5 u6 h; cases (show (none : Option Int32) = _ from h)
    | succ lf_3 ih_3 =>
      intro u1 u2 u3 u4 u5 u6 h H locs ls hP hD hS hl
      rw [m_ahead_L3] at h
      refine lv_iload hx hb dX12_ahead_3 (lv_at hl 6 rfl) ?_
      refine lv_aload_n hx hb dX12_ahead_5 rfl (lv_at hl 0 rfl) ?_
      refine fg_64 hx hb hts hown hK hP dX12_ahead_6 ?_
      refine lv_iload_n hx hb dX12_ahead_9 rfl (lv_at hl 1 rfl) ?_
      obtain ⟨v_3, hv_3, h⟩ := ob h
      refine ag_64 hx hb hK hP hv_3 dX12_ahead_10 ?_
      refine lv_icmp_ge (tgt := 121) hx hb dX12_ahead_11 (by decide) (fun c_4 => ?_) (fun c_4 => ?_)
      · skip
        replace h := (if_pos c_4).symm.trans h
        refine lv_aload_n hx hb dX12_ahead_121 rfl (lv_at hl 0 rfl) ?_
        refine lv_aload_n hx hb dX12_ahead_122 rfl (lv_at hl 0 rfl) ?_
        refine lv_iload_n hx hb dX12_ahead_123 rfl (lv_at hl 2 rfl) ?_
        refine lv_iload hx hb dX12_ahead_124 (lv_at hl 4 rfl) ?_
        obtain ⟨v_5, hv_5, h⟩ := ob h
        refine calI (As := [.int u2, .int u4]) hx hb hml hts hown hK hP hD hS hA hZ (s_rowAt l dC dI cB cI cJ cZ h0 a K V fz F cs u2 u4 v_5 hv_5) (cw_rowAt hts (fr := 0) (Nat.le_of_ble_eq_true rfl) (Nat.le_of_ble_eq_true rfl)) rfl hl.1 (Nat.le_of_ble_eq_true rfl) ⟨Nat.zero_le _, Nat.zero_le _⟩ dX12_ahead_126 (fun H locs hP hD hS => ?_)
        refine lv_aload_n hx hb dX12_ahead_129 rfl (lv_at hl 0 rfl) ?_
        refine lv_iload_n hx hb dX12_ahead_130 rfl (lv_at hl 2 rfl) ?_
        refine lv_iload hx hb dX12_ahead_131 (lv_at hl 5 rfl) ?_
        obtain ⟨v_6, hv_6, h⟩ := ob h
        refine calI (As := [.int u2, .int u5]) hx hb hml hts hown hK hP hD hS hA hZ (s_rowAt l dC dI cB cI cJ cZ h0 a K V fz F cs u2 u5 v_6 hv_6) (cw_rowAt hts (fr := 0) (Nat.le_of_ble_eq_true rfl) (Nat.le_of_ble_eq_true rfl)) rfl hl.1 (Nat.le_of_ble_eq_true rfl) ⟨Nat.zero_le _, Nat.zero_le _⟩ dX12_ahead_133 (fun H locs hP hD hS => ?_)
        refine lv_aload_n hx hb dX12_ahead_136 rfl (lv_at hl 0 rfl) ?_
        refine fg_90 hx hb hts hown hK hP dX12_ahead_137 ?_
        refine lv_iload_n hx hb dX12_ahead_140 rfl (lv_at hl 2 rfl) ?_
        obtain ⟨v_7, hv_7, h⟩ := ob h
        refine ag_90 hx hb hK hP hv_7 dX12_ahead_141 ?_
        obtain ⟨v_8, hv_8, h⟩ := ob h
        refine calI (As := [.int v_5, .int v_6, .int v_7]) hx hb hml hts hown hK hP hD hS hA hZ (s_compareRows l dC dI cB cI cJ cZ h0 a K V fz F cs v_5 v_6 v_7 v_8 hv_8) (cw_compareRows hts (fr := 1) (Nat.le_of_ble_eq_true rfl) (Nat.le_of_ble_eq_true rfl)) rfl hl.1 (Nat.le_of_ble_eq_true rfl) ⟨Nat.zero_le _, Nat.zero_le _⟩ dX12_ahead_142 (fun H locs hP hD hS => ?_)
        refine lv_if_ge (tgt := 152) hx hb dX12_ahead_145 (by decide) (fun c_9 => ?_) (fun c_9 => ?_)
        · skip
          replace h := (if_pos c_9).symm.trans h
          refine lv_iconst (v := 0) hx hb dX12_ahead_152 (by decide) ?_
          exact B_153 0 h _ _ _ hP hD hS (lv_sub hl [] rfl)
        · skip
          replace h := (if_neg c_9).symm.trans h
          refine lv_iconst (v := 1) hx hb dX12_ahead_148 (by decide) ?_
          refine lv_goto (tgt := 153) hx hb dX12_ahead_149 (by decide) ?_
          exact B_153 1 h _ _ _ hP hD hS (lv_sub hl [] rfl)
      · skip
        replace h := (if_neg c_4).symm.trans h
        refine lv_aload_n hx hb dX12_ahead_14 rfl (lv_at hl 0 rfl) ?_
        refine lv_iload_n hx hb dX12_ahead_15 rfl (lv_at hl 3 rfl) ?_
        refine lv_iload hx hb dX12_ahead_16 (lv_at hl 4 rfl) ?_
        obtain ⟨v_10, hv_10, h⟩ := ob h
        refine calI (As := [.int u3, .int u4]) hx hb hml hts hown hK hP hD hS hA hZ (s_rowAt l dC dI cB cI cJ cZ h0 a K V fz F cs u3 u4 v_10 hv_10) (cw_rowAt hts (fr := 0) (Nat.le_of_ble_eq_true rfl) (Nat.le_of_ble_eq_true rfl)) rfl hl.1 (Nat.le_of_ble_eq_true rfl) ⟨Nat.zero_le _, Nat.zero_le _⟩ dX12_ahead_18 (fun H locs hP hD hS => ?_)
        refine lv_iload hx hb dX12_ahead_21 (lv_at hl 6 rfl) ?_
        refine lv_iadd hx hb dX12_ahead_23 ?_
        refine lv_istore (lv' := [(7, .int (v_10 + u6)), (0, .ref h0), (1, .int u1), (2, .int u2), (3, .int u3), (4, .int u4), (5, .int u5), (6, .int u6)]) hx hb dX12_ahead_24 hl (by decide) rfl (fun ls hl => ?_)
        refine lv_aload_n hx hb dX12_ahead_26 rfl (lv_at hl 1 rfl) ?_
        refine lv_iload_n hx hb dX12_ahead_27 rfl (lv_at hl 4 rfl) ?_
        refine lv_iload hx hb dX12_ahead_28 (lv_at hl 6 rfl) ?_
        obtain ⟨v_11, hv_11, h⟩ := ob h
        refine calI (As := [.int u3, .int u5]) hx hb hml hts hown hK hP hD hS hA hZ (s_rowAt l dC dI cB cI cJ cZ h0 a K V fz F cs u3 u5 v_11 hv_11) (cw_rowAt hts (fr := 0) (Nat.le_of_ble_eq_true rfl) (Nat.le_of_ble_eq_true rfl)) rfl hl.1 (Nat.le_of_ble_eq_true rfl) ⟨Nat.zero_le _, Nat.zero_le _⟩ dX12_ahead_30 (fun H locs hP hD hS => ?_)
        refine lv_iload hx hb dX12_ahead_33 (lv_at hl 7 rfl) ?_
        refine lv_iadd hx hb dX12_ahead_35 ?_
        refine lv_istore (lv' := [(8, .int (v_11 + u6)), (7, .int (v_10 + u6)), (0, .ref h0), (1, .int u1), (2, .int u2), (3, .int u3), (4, .int u4), (5, .int u5), (6, .int u6)]) hx hb dX12_ahead_36 hl (by decide) rfl (fun ls hl => ?_)
        refine lv_aload_n hx hb dX12_ahead_38 rfl (lv_at hl 2 rfl) ?_
        refine fg_85 hx hb hts hown hK hP dX12_ahead_39 ?_
        refine lv_iload hx hb dX12_ahead_42 (lv_at hl 1 rfl) ?_
        obtain ⟨v_12, hv_12, h⟩ := ob h
        refine ag_85 hx hb hK hP hv_12 dX12_ahead_44 ?_
        refine lv_aload_n hx hb dX12_ahead_45 rfl (lv_at hl 2 rfl) ?_
        refine fg_86 hx hb hts hown hK hP dX12_ahead_46 ?_
        refine lv_iload hx hb dX12_ahead_49 (lv_at hl 1 rfl) ?_
        obtain ⟨v_13, hv_13, h⟩ := ob h
        refine ag_86 hx hb hK hP hv_13 dX12_ahead_51 ?_
        refine lv_aload_n hx hb dX12_ahead_52 rfl (lv_at hl 2 rfl) ?_
        refine fg_85 hx hb hts hown hK hP dX12_ahead_53 ?_
        refine lv_iload hx hb dX12_ahead_56 (lv_at hl 0 rfl) ?_
        obtain ⟨v_14, hv_14, h⟩ := ob h
        refine ag_85 hx hb hK hP hv_14 dX12_ahead_58 ?_
        refine lv_aload_n hx hb dX12_ahead_59 rfl (lv_at hl 2 rfl) ?_
        refine fg_86 hx hb hts hown hK hP dX12_ahead_60 ?_
        refine lv_iload hx hb dX12_ahead_63 (lv_at hl 0 rfl) ?_
        obtain ⟨v_15, hv_15, h⟩ := ob h
        refine ag_86 hx hb hK hP hv_15 dX12_ahead_65 ?_
        obtain ⟨v_16, hv_16, h⟩ := ob h
        refine calSI (As := [.long v_12, .int v_13, .long v_14, .int v_15]) hx hb hml hts hown hK hP hD hS hA hZ (s_compare l dC dI cB cI cJ cZ h0 a K V fz F cs v_12 v_13 v_14 v_15 v_16 hv_16) (cw_compare hts (fr := 0) (Nat.le_of_ble_eq_true rfl) (Nat.le_of_ble_eq_true rfl)) rfl hl.1 (Nat.le_of_ble_eq_true rfl) ⟨Nat.zero_le _, Nat.zero_le _⟩ dX12_ahead_66 (fun H locs hP hD hS => ?_)
        refine lv_istore (lv' := [(9, .int v_16), (8, .int (v_11 + u6)), (7, .int (v_10 + u6)), (0, .ref h0), (1, .int u1), (2, .int u2), (3, .int u3), (4, .int u4), (5, .int u5), (6, .int u6)]) hx hb dX12_ahead_69 hl (by decide) rfl (fun ls hl => ?_)
        refine lv_iload hx hb dX12_ahead_71 (lv_at hl 0 rfl) ?_
        refine lv_if_eq (tgt := 115) hx hb dX12_ahead_73 (by decide) (fun c_17 => ?_) (fun c_17 => ?_)
        · skip
          replace h := (if_pos c_17).symm.trans h
          refine lv_iinc (v := u6 + 1) (lv' := [(6, .int (u6 + 1)), (9, .int v_16), (8, .int (v_11 + u6)), (7, .int (v_10 + u6)), (0, .ref h0), (1, .int u1), (2, .int u2), (3, .int u3), (4, .int u4), (5, .int u5)]) hx hb dX12_ahead_115 hl (k := 9) rfl rfl (by decide) rfl (fun ls hl => ?_)
          refine lv_goto (tgt := 3) hx hb dX12_ahead_118 (by decide) ?_
          exact ih_3 u1 u2 u3 u4 u5 (u6 + 1) h _ _ _ hP hD hS (lv_sub hl [4, 5, 6, 7, 8, 9, 0] rfl)
        · skip
          replace h := (if_neg c_17).symm.trans h
          refine lv_aload_n hx hb dX12_ahead_76 rfl (lv_at hl 3 rfl) ?_
          refine fg_67 hx hb hts hown hK hP dX12_ahead_77 ?_
          refine lv_bipush (v := 8) hx hb dX12_ahead_80 (by decide) ?_
          refine lv_iload_n hx hb dX12_ahead_82 rfl (lv_at hl 4 rfl) ?_
          refine lv_imul hx hb dX12_ahead_83 ?_
          refine lv_iload hx hb dX12_ahead_84 (lv_at hl 9 rfl) ?_
          refine lv_iadd hx hb dX12_ahead_86 ?_
          obtain ⟨v_18, hv_18, h⟩ := ob h
          refine ag_67 hx hb hK hP hv_18 dX12_ahead_87 ?_
          refine lv_if_eq (tgt := 104) hx hb dX12_ahead_88 (by decide) (fun c_19 => ?_) (fun c_19 => ?_)
          · skip
            replace h := (if_pos c_19).symm.trans h
            refine lv_iload hx hb dX12_ahead_104 (lv_at hl 0 rfl) ?_
            refine lv_if_ge (tgt := 113) hx hb dX12_ahead_106 (by decide) (fun c_20 => ?_) (fun c_20 => ?_)
            · skip
              replace h := (if_pos c_20).symm.trans h
              refine lv_iconst (v := 0) hx hb dX12_ahead_113 (by decide) ?_
              exact B_114 0 h _ _ _ hP hD hS (lv_sub hl [] rfl)
            · skip
              replace h := (if_neg c_20).symm.trans h
              refine lv_iconst (v := 1) hx hb dX12_ahead_109 (by decide) ?_
              refine lv_goto (tgt := 114) hx hb dX12_ahead_110 (by decide) ?_
              exact B_114 1 h _ _ _ hP hD hS (lv_sub hl [] rfl)
          · skip
            replace h := (if_neg c_19).symm.trans h
            refine lv_iload hx hb dX12_ahead_91 (lv_at hl 0 rfl) ?_
            refine lv_if_le (tgt := 100) hx hb dX12_ahead_93 (by decide) (fun c_21 => ?_) (fun c_21 => ?_)
            · skip
              replace h := (if_pos c_21).symm.trans h
              refine lv_iconst (v := 0) hx hb dX12_ahead_100 (by decide) ?_
              refine lv_goto (tgt := 114) hx hb dX12_ahead_101 (by decide) ?_
              exact B_114 0 h _ _ _ hP hD hS (lv_sub hl [] rfl)
            · skip
              replace h := (if_neg c_21).symm.trans h
              refine lv_iconst (v := 1) hx hb dX12_ahead_96 (by decide) ?_
              refine lv_goto (tgt := 114) hx hb dX12_ahead_97 (by decide) ?_
              exact B_114 1 h _ _ _ hP hD hS (lv_sub hl [] rfl)
  have h := hf
  unfold m_ahead at h
  refine lv_iconst (v := 0) hx hb dX12_ahead_0 (by decide) ?_
  refine lv_istore (lv' := [(6, .int 0), (0, .ref h0), (1, .int x1), (2, .int x2), (3, .int x3), (4, .int x4), (5, .int x5)]) hx hb dX12_ahead_1 hl (by decide) rfl (fun ls hl => ?_)
  exact L_3 F x1 x2 x3 x4 x5 0 h _ _ _ hP hD hS (lv_sub hl [1, 2, 3, 4, 5, 6, 0] rfl)
theorem cw_ahead {R : Room} {s : State} {args : Array Value} {y0 : MethodName} {c0 : ByteArray} {n0 : Nat} {r0 : Option FieldType} (hts : ∀ w ∈ wsOf y0 c0 n0 r0, w.before args s = true) {fr : Nat} (h1 : fr + 1 ≤ R.frames) (h2 : 8 + (10 + 11) + 60 * fr ≤ R.locals) : CallW R s args RX12 RX12 709 yX12_ahead cX12_ahead 10 (some .boolean) (wsOf yX12_ahead cX12_ahead 10 (some .boolean)) ({ frames := fr, cells := 0, slots := 0, locals := 60 * fr } : Room) 0 0 5 := cwV 5 hts (gd_all (in_V kw_2192 kw_2194 kw_127 kw_191 kc_X12_ahead)) rfl rfl rfl (by decide +kernel) ⟨h1, h2⟩
theorem dX12_ordered_0 : decode cX12_ordered 0 = .ok (.aload_n 0, 1) := by decide +kernel
theorem dX12_ordered_1 : decode cX12_ordered 1 = .ok (.getfield 169, 3) := by decide +kernel
theorem dX12_ordered_4 : decode cX12_ordered 4 = .ok (.iload_n 1, 1) := by decide +kernel
theorem dX12_ordered_5 : decode cX12_ordered 5 = .ok (.iaload, 1) := by decide +kernel
theorem dX12_ordered_6 : decode cX12_ordered 6 = .ok (.istore_n 3, 1) := by decide +kernel
theorem dX12_ordered_7 : decode cX12_ordered 7 = .ok (.aload_n 0, 1) := by decide +kernel
theorem dX12_ordered_8 : decode cX12_ordered 8 = .ok (.iload_n 3, 1) := by decide +kernel
theorem dX12_ordered_9 : decode cX12_ordered 9 = .ok (.invokevirtual 662, 3) := by decide +kernel
theorem dX12_ordered_12 : decode cX12_ordered 12 = .ok (.istore 4, 2) := by decide +kernel
theorem dX12_ordered_14 : decode cX12_ordered 14 = .ok (.iconst 0, 1) := by decide +kernel
theorem dX12_ordered_15 : decode cX12_ordered 15 = .ok (.istore 5, 2) := by decide +kernel
theorem dX12_ordered_17 : decode cX12_ordered 17 = .ok (.iload 5, 2) := by decide +kernel
theorem dX12_ordered_19 : decode cX12_ordered 19 = .ok (.aload_n 0, 1) := by decide +kernel
theorem dX12_ordered_20 : decode cX12_ordered 20 = .ok (.getfield 203, 3) := by decide +kernel
theorem dX12_ordered_23 : decode cX12_ordered 23 = .ok (.iload_n 2, 1) := by decide +kernel
theorem dX12_ordered_24 : decode cX12_ordered 24 = .ok (.iaload, 1) := by decide +kernel
theorem dX12_ordered_25 : decode cX12_ordered 25 = .ok (.if_icmp .ge 88, 3) := by decide +kernel
theorem dX12_ordered_28 : decode cX12_ordered 28 = .ok (.aload_n 0, 1) := by decide +kernel
theorem dX12_ordered_29 : decode cX12_ordered 29 = .ok (.iload 4, 2) := by decide +kernel
theorem dX12_ordered_31 : decode cX12_ordered 31 = .ok (.invokevirtual 668, 3) := by decide +kernel
theorem dX12_ordered_34 : decode cX12_ordered 34 = .ok (.istore 6, 2) := by decide +kernel
theorem dX12_ordered_36 : decode cX12_ordered 36 = .ok (.iconst 0, 1) := by decide +kernel
theorem dX12_ordered_37 : decode cX12_ordered 37 = .ok (.istore 7, 2) := by decide +kernel
theorem dX12_ordered_39 : decode cX12_ordered 39 = .ok (.iload 7, 2) := by decide +kernel
theorem dX12_ordered_41 : decode cX12_ordered 41 = .ok (.iload_n 3, 1) := by decide +kernel
theorem dX12_ordered_42 : decode cX12_ordered 42 = .ok (.if_icmp .ge 65, 3) := by decide +kernel
theorem dX12_ordered_45 : decode cX12_ordered 45 = .ok (.aload_n 0, 1) := by decide +kernel
theorem dX12_ordered_46 : decode cX12_ordered 46 = .ok (.aload_n 0, 1) := by decide +kernel
theorem dX12_ordered_47 : decode cX12_ordered 47 = .ok (.iload_n 2, 1) := by decide +kernel
theorem dX12_ordered_48 : decode cX12_ordered 48 = .ok (.iload 5, 2) := by decide +kernel
theorem dX12_ordered_50 : decode cX12_ordered 50 = .ok (.invokevirtual 653, 3) := by decide +kernel
theorem dX12_ordered_53 : decode cX12_ordered 53 = .ok (.putfield 621, 3) := by decide +kernel
theorem dX12_ordered_56 : decode cX12_ordered 56 = .ok (.aload_n 0, 1) := by decide +kernel
theorem dX12_ordered_57 : decode cX12_ordered 57 = .ok (.iconst 0, 1) := by decide +kernel
theorem dX12_ordered_58 : decode cX12_ordered 58 = .ok (.putfield 615, 3) := by decide +kernel
theorem dX12_ordered_61 : decode cX12_ordered 61 = .ok (.aload_n 0, 1) := by decide +kernel
theorem dX12_ordered_62 : decode cX12_ordered 62 = .ok (.getfield 194, 3) := by decide +kernel
theorem dX12_ordered_65 : decode cX12_ordered 65 = .ok (.iload 6, 2) := by decide +kernel
theorem dX12_ordered_67 : decode cX12_ordered 67 = .ok (.iload 7, 2) := by decide +kernel
theorem dX12_ordered_69 : decode cX12_ordered 69 = .ok (.iadd, 1) := by decide +kernel
theorem dX12_ordered_70 : decode cX12_ordered 70 = .ok (.aload_n 0, 1) := by decide +kernel
theorem dX12_ordered_71 : decode cX12_ordered 71 = .ok (.aload_n 0, 1) := by decide +kernel
theorem dX12_ordered_72 : decode cX12_ordered 72 = .ok (.getfield 175, 3) := by decide +kernel
theorem dX12_ordered_75 : decode cX12_ordered 75 = .ok (.bipush 8, 2) := by decide +kernel
theorem dX12_ordered_77 : decode cX12_ordered 77 = .ok (.iload_n 1, 1) := by decide +kernel
theorem dX12_ordered_78 : decode cX12_ordered 78 = .ok (.imul, 1) := by decide +kernel
theorem dX12_ordered_79 : decode cX12_ordered 79 = .ok (.iload 7, 2) := by decide +kernel
theorem dX12_ordered_81 : decode cX12_ordered 81 = .ok (.iadd, 1) := by decide +kernel
theorem dX12_ordered_82 : decode cX12_ordered 82 = .ok (.iaload, 1) := by decide +kernel
theorem dX12_ordered_83 : decode cX12_ordered 83 = .ok (.invokevirtual 600, 3) := by decide +kernel
theorem dX12_ordered_86 : decode cX12_ordered 86 = .ok (.lastore, 1) := by decide +kernel
theorem dX12_ordered_87 : decode cX12_ordered 87 = .ok (.aload_n 0, 1) := by decide +kernel
theorem dX12_ordered_88 : decode cX12_ordered 88 = .ok (.getfield 197, 3) := by decide +kernel
theorem dX12_ordered_91 : decode cX12_ordered 91 = .ok (.iload 6, 2) := by decide +kernel
theorem dX12_ordered_93 : decode cX12_ordered 93 = .ok (.iload 7, 2) := by decide +kernel
theorem dX12_ordered_95 : decode cX12_ordered 95 = .ok (.iadd, 1) := by decide +kernel
theorem dX12_ordered_96 : decode cX12_ordered 96 = .ok (.aload_n 0, 1) := by decide +kernel
theorem dX12_ordered_97 : decode cX12_ordered 97 = .ok (.getfield 604, 3) := by decide +kernel
theorem dX12_ordered_100 : decode cX12_ordered 100 = .ok (.bastore, 1) := by decide +kernel
theorem dX12_ordered_101 : decode cX12_ordered 101 = .ok (.iinc 7 1, 3) := by decide +kernel
theorem dX12_ordered_104 : decode cX12_ordered 104 = .ok (.goto (-65), 3) := by decide +kernel
theorem dX12_ordered_107 : decode cX12_ordered 107 = .ok (.iinc 5 1, 3) := by decide +kernel
theorem dX12_ordered_110 : decode cX12_ordered 110 = .ok (.goto (-93), 3) := by decide +kernel
theorem dX12_ordered_113 : decode cX12_ordered 113 = .ok (.aload_n 0, 1) := by decide +kernel
theorem dX12_ordered_114 : decode cX12_ordered 114 = .ok (.aload_n 0, 1) := by decide +kernel
theorem dX12_ordered_115 : decode cX12_ordered 115 = .ok (.getfield 206, 3) := by decide +kernel
theorem dX12_ordered_118 : decode cX12_ordered 118 = .ok (.iload_n 2, 1) := by decide +kernel
theorem dX12_ordered_119 : decode cX12_ordered 119 = .ok (.iaload, 1) := by decide +kernel
theorem dX12_ordered_120 : decode cX12_ordered 120 = .ok (.invokevirtual 662, 3) := by decide +kernel
theorem dX12_ordered_123 : decode cX12_ordered 123 = .ok (.istore 5, 2) := by decide +kernel
theorem dX12_ordered_125 : decode cX12_ordered 125 = .ok (.aload_n 0, 1) := by decide +kernel
theorem dX12_ordered_126 : decode cX12_ordered 126 = .ok (.getfield 203, 3) := by decide +kernel
theorem dX12_ordered_129 : decode cX12_ordered 129 = .ok (.iload_n 2, 1) := by decide +kernel
theorem dX12_ordered_130 : decode cX12_ordered 130 = .ok (.iaload, 1) := by decide +kernel
theorem dX12_ordered_131 : decode cX12_ordered 131 = .ok (.aload_n 0, 1) := by decide +kernel
theorem dX12_ordered_132 : decode cX12_ordered 132 = .ok (.getfield 181, 3) := by decide +kernel
theorem dX12_ordered_135 : decode cX12_ordered 135 = .ok (.iload_n 1, 1) := by decide +kernel
theorem dX12_ordered_136 : decode cX12_ordered 136 = .ok (.iaload, 1) := by decide +kernel
theorem dX12_ordered_137 : decode cX12_ordered 137 = .ok (.if_icmp .ge 12, 3) := by decide +kernel
theorem dX12_ordered_140 : decode cX12_ordered 140 = .ok (.aload_n 0, 1) := by decide +kernel
theorem dX12_ordered_141 : decode cX12_ordered 141 = .ok (.getfield 203, 3) := by decide +kernel
theorem dX12_ordered_144 : decode cX12_ordered 144 = .ok (.iload_n 2, 1) := by decide +kernel
theorem dX12_ordered_145 : decode cX12_ordered 145 = .ok (.iaload, 1) := by decide +kernel
theorem dX12_ordered_146 : decode cX12_ordered 146 = .ok (.goto 9, 3) := by decide +kernel
theorem dX12_ordered_149 : decode cX12_ordered 149 = .ok (.aload_n 0, 1) := by decide +kernel
theorem dX12_ordered_150 : decode cX12_ordered 150 = .ok (.getfield 181, 3) := by decide +kernel
theorem dX12_ordered_153 : decode cX12_ordered 153 = .ok (.iload_n 1, 1) := by decide +kernel
theorem dX12_ordered_154 : decode cX12_ordered 154 = .ok (.iaload, 1) := by decide +kernel
theorem dX12_ordered_155 : decode cX12_ordered 155 = .ok (.istore 6, 2) := by decide +kernel
theorem dX12_ordered_157 : decode cX12_ordered 157 = .ok (.iconst 0, 1) := by decide +kernel
theorem dX12_ordered_158 : decode cX12_ordered 158 = .ok (.istore 7, 2) := by decide +kernel
theorem dX12_ordered_160 : decode cX12_ordered 160 = .ok (.iload 7, 2) := by decide +kernel
theorem dX12_ordered_162 : decode cX12_ordered 162 = .ok (.aload_n 0, 1) := by decide +kernel
theorem dX12_ordered_163 : decode cX12_ordered 163 = .ok (.getfield 203, 3) := by decide +kernel
theorem dX12_ordered_166 : decode cX12_ordered 166 = .ok (.iload_n 2, 1) := by decide +kernel
theorem dX12_ordered_167 : decode cX12_ordered 167 = .ok (.iaload, 1) := by decide +kernel
theorem dX12_ordered_168 : decode cX12_ordered 168 = .ok (.if_icmp .ge 17, 3) := by decide +kernel
theorem dX12_ordered_171 : decode cX12_ordered 171 = .ok (.aload_n 0, 1) := by decide +kernel
theorem dX12_ordered_172 : decode cX12_ordered 172 = .ok (.getfield 212, 3) := by decide +kernel
theorem dX12_ordered_175 : decode cX12_ordered 175 = .ok (.iload 7, 2) := by decide +kernel
theorem dX12_ordered_177 : decode cX12_ordered 177 = .ok (.iconst 0, 1) := by decide +kernel
theorem dX12_ordered_178 : decode cX12_ordered 178 = .ok (.bastore, 1) := by decide +kernel
theorem dX12_ordered_179 : decode cX12_ordered 179 = .ok (.iinc 7 1, 3) := by decide +kernel
theorem dX12_ordered_182 : decode cX12_ordered 182 = .ok (.goto (-22), 3) := by decide +kernel
theorem dX12_ordered_185 : decode cX12_ordered 185 = .ok (.iconst 0, 1) := by decide +kernel
theorem dX12_ordered_186 : decode cX12_ordered 186 = .ok (.istore 7, 2) := by decide +kernel
theorem dX12_ordered_188 : decode cX12_ordered 188 = .ok (.iload 7, 2) := by decide +kernel
theorem dX12_ordered_190 : decode cX12_ordered 190 = .ok (.iload 6, 2) := by decide +kernel
theorem dX12_ordered_192 : decode cX12_ordered 192 = .ok (.if_icmp .ge 98, 3) := by decide +kernel
theorem dX12_ordered_195 : decode cX12_ordered 195 = .ok (.iconst (-1), 1) := by decide +kernel
theorem dX12_ordered_196 : decode cX12_ordered 196 = .ok (.istore 8, 2) := by decide +kernel
theorem dX12_ordered_198 : decode cX12_ordered 198 = .ok (.iconst 0, 1) := by decide +kernel
theorem dX12_ordered_199 : decode cX12_ordered 199 = .ok (.istore 9, 2) := by decide +kernel
theorem dX12_ordered_201 : decode cX12_ordered 201 = .ok (.iload 9, 2) := by decide +kernel
theorem dX12_ordered_203 : decode cX12_ordered 203 = .ok (.aload_n 0, 1) := by decide +kernel
theorem dX12_ordered_204 : decode cX12_ordered 204 = .ok (.getfield 203, 3) := by decide +kernel
theorem dX12_ordered_207 : decode cX12_ordered 207 = .ok (.iload_n 2, 1) := by decide +kernel
theorem dX12_ordered_208 : decode cX12_ordered 208 = .ok (.iaload, 1) := by decide +kernel
theorem dX12_ordered_209 : decode cX12_ordered 209 = .ok (.if_icmp .ge 44, 3) := by decide +kernel
theorem dX12_ordered_212 : decode cX12_ordered 212 = .ok (.aload_n 0, 1) := by decide +kernel
theorem dX12_ordered_213 : decode cX12_ordered 213 = .ok (.getfield 212, 3) := by decide +kernel
theorem dX12_ordered_216 : decode cX12_ordered 216 = .ok (.iload 9, 2) := by decide +kernel
theorem dX12_ordered_218 : decode cX12_ordered 218 = .ok (.baload, 1) := by decide +kernel
theorem dX12_ordered_219 : decode cX12_ordered 219 = .ok (.ifCond .ne 28, 3) := by decide +kernel
theorem dX12_ordered_222 : decode cX12_ordered 222 = .ok (.iload 8, 2) := by decide +kernel
theorem dX12_ordered_224 : decode cX12_ordered 224 = .ok (.iconst (-1), 1) := by decide +kernel
theorem dX12_ordered_225 : decode cX12_ordered 225 = .ok (.if_icmp .eq 18, 3) := by decide +kernel
theorem dX12_ordered_228 : decode cX12_ordered 228 = .ok (.aload_n 0, 1) := by decide +kernel
theorem dX12_ordered_229 : decode cX12_ordered 229 = .ok (.iload_n 1, 1) := by decide +kernel
theorem dX12_ordered_230 : decode cX12_ordered 230 = .ok (.iload_n 2, 1) := by decide +kernel
theorem dX12_ordered_231 : decode cX12_ordered 231 = .ok (.iload 4, 2) := by decide +kernel
theorem dX12_ordered_233 : decode cX12_ordered 233 = .ok (.iload 9, 2) := by decide +kernel
theorem dX12_ordered_235 : decode cX12_ordered 235 = .ok (.iload 8, 2) := by decide +kernel
theorem dX12_ordered_237 : decode cX12_ordered 237 = .ok (.invokevirtual 709, 3) := by decide +kernel
theorem dX12_ordered_240 : decode cX12_ordered 240 = .ok (.ifCond .eq 7, 3) := by decide +kernel
theorem dX12_ordered_243 : decode cX12_ordered 243 = .ok (.iload 9, 2) := by decide +kernel
theorem dX12_ordered_245 : decode cX12_ordered 245 = .ok (.istore 8, 2) := by decide +kernel
theorem dX12_ordered_247 : decode cX12_ordered 247 = .ok (.iinc 9 1, 3) := by decide +kernel
theorem dX12_ordered_250 : decode cX12_ordered 250 = .ok (.goto (-49), 3) := by decide +kernel
theorem dX12_ordered_253 : decode cX12_ordered 253 = .ok (.aload_n 0, 1) := by decide +kernel
theorem dX12_ordered_254 : decode cX12_ordered 254 = .ok (.getfield 212, 3) := by decide +kernel
theorem dX12_ordered_257 : decode cX12_ordered 257 = .ok (.iload 8, 2) := by decide +kernel
theorem dX12_ordered_259 : decode cX12_ordered 259 = .ok (.iconst 1, 1) := by decide +kernel
theorem dX12_ordered_260 : decode cX12_ordered 260 = .ok (.bastore, 1) := by decide +kernel
theorem dX12_ordered_261 : decode cX12_ordered 261 = .ok (.aload_n 0, 1) := by decide +kernel
theorem dX12_ordered_262 : decode cX12_ordered 262 = .ok (.aload_n 0, 1) := by decide +kernel
theorem dX12_ordered_263 : decode cX12_ordered 263 = .ok (.iload_n 2, 1) := by decide +kernel
theorem dX12_ordered_264 : decode cX12_ordered 264 = .ok (.iload 8, 2) := by decide +kernel
theorem dX12_ordered_266 : decode cX12_ordered 266 = .ok (.invokevirtual 653, 3) := by decide +kernel
theorem dX12_ordered_269 : decode cX12_ordered 269 = .ok (.aload_n 0, 1) := by decide +kernel
theorem dX12_ordered_270 : decode cX12_ordered 270 = .ok (.iload 5, 2) := by decide +kernel
theorem dX12_ordered_272 : decode cX12_ordered 272 = .ok (.invokevirtual 668, 3) := by decide +kernel
theorem dX12_ordered_275 : decode cX12_ordered 275 = .ok (.aload_n 0, 1) := by decide +kernel
theorem dX12_ordered_276 : decode cX12_ordered 276 = .ok (.getfield 206, 3) := by decide +kernel
theorem dX12_ordered_279 : decode cX12_ordered 279 = .ok (.iload_n 2, 1) := by decide +kernel
theorem dX12_ordered_280 : decode cX12_ordered 280 = .ok (.iaload, 1) := by decide +kernel
theorem dX12_ordered_281 : decode cX12_ordered 281 = .ok (.invokevirtual 671, 3) := by decide +kernel
theorem dX12_ordered_284 : decode cX12_ordered 284 = .ok (.iinc 7 1, 3) := by decide +kernel
theorem dX12_ordered_287 : decode cX12_ordered 287 = .ok (.goto (-99), 3) := by decide +kernel
theorem dX12_ordered_290 : decode cX12_ordered 290 = .ok (.iload 5, 2) := by decide +kernel
theorem dX12_ordered_292 : decode cX12_ordered 292 = .ok (.ireturn, 1) := by decide +kernel
def m_ordered_b247 (F : Nat) (rc188 : RS → Int32 → Int32 → Int32 → Int32 → Int32 → Int32 → Option (RS × Int32)) (rc201 : RS → Int32 → Int32 → Int32 → Int32 → Int32 → Int32 → Int32 → Int32 → Option (RS × Int32)) (cs1 : RS) (u1 : Int32) (u2 : Int32) (u4 : Int32) (u5 : Int32) (u6 : Int32) (u7 : Int32) (u8 : Int32) (u9 : Int32) : Option (RS × Int32) := rc201 cs1 u1 u2 u4 u5 u6 u7 u8 (u9 + 1)
def m_ordered_b243 (F : Nat) (rc188 : RS → Int32 → Int32 → Int32 → Int32 → Int32 → Int32 → Option (RS × Int32)) (rc201 : RS → Int32 → Int32 → Int32 → Int32 → Int32 → Int32 → Int32 → Int32 → Option (RS × Int32)) (cs1 : RS) (u1 : Int32) (u2 : Int32) (u4 : Int32) (u5 : Int32) (u6 : Int32) (u7 : Int32) (u9 : Int32) : Option (RS × Int32) := m_ordered_b247 F rc188 rc201 cs1 u1 u2 u4 u5 u6 u7 u9 u9
def m_ordered_L201 (F : Nat) (rc188 : RS → Int32 → Int32 → Int32 → Int32 → Int32 → Int32 → Option (RS × Int32)) : Nat → RS → Int32 → Int32 → Int32 → Int32 → Int32 → Int32 → Int32 → Int32 → Option (RS × Int32)
  | 0, _, _, _, _, _, _, _, _, _ => none
  | lf_201 + 1, cs1, u1, u2, u4, u5, u6, u7, u8, u9 => Option.bind (rdI (cs1.2.2.1 89) 400 u2) fun v_1 => if v_1 ≤ u9 then (Option.bind (wrI cs1 99 700 u8 (vp_nar .boolean 1)) fun cs_3 => Option.bind (m_rowAt F cs_3 u2 u8) fun v_4 => Option.bind (m_newRow F cs_3 u5) fun z_5 => Option.bind (rdI (z_5.1.2.2.1 90) 400 u2) fun v_6 => Option.bind (m_copy F z_5.1 v_4 z_5.2 v_6) fun cs_7 => rc188 cs_7 u1 u2 u4 u5 u6 (u7 + 1)) else (Option.bind (rdI (cs1.2.2.1 99) 700 u9) fun v_8 => if v_8 = 0 then (if u8 = (-1) then (m_ordered_b243 F rc188 (m_ordered_L201 F rc188 lf_201) cs1 u1 u2 u4 u5 u6 u7 u9) else (Option.bind (m_ahead F cs1 u1 u2 u4 u9 u8) fun v_11 => if v_11 = 0 then (m_ordered_b247 F rc188 (m_ordered_L201 F rc188 lf_201) cs1 u1 u2 u4 u5 u6 u7 u8 u9) else (m_ordered_b243 F rc188 (m_ordered_L201 F rc188 lf_201) cs1 u1 u2 u4 u5 u6 u7 u9))) else (m_ordered_b247 F rc188 (m_ordered_L201 F rc188 lf_201) cs1 u1 u2 u4 u5 u6 u7 u8 u9))
def m_ordered_L188 (F : Nat) : Nat → RS → Int32 → Int32 → Int32 → Int32 → Int32 → Int32 → Option (RS × Int32)
  | 0, _, _, _, _, _, _, _ => none
  | lf_188 + 1, cs1, u1, u2, u4, u5, u6, u7 => if u6 ≤ u7 then (some (cs1, u5)) else (m_ordered_L201 F (m_ordered_L188 F lf_188) F cs1 u1 u2 u4 u5 u6 u7 (-1) 0)
def m_ordered_L160 (F : Nat) : Nat → RS → Int32 → Int32 → Int32 → Int32 → Int32 → Int32 → Option (RS × Int32)
  | 0, _, _, _, _, _, _, _ => none
  | lf_160 + 1, cs1, u1, u2, u4, u5, u6, u7 => Option.bind (rdI (cs1.2.2.1 89) 400 u2) fun v_14 => if v_14 ≤ u7 then (m_ordered_L188 F F cs1 u1 u2 u4 u5 u6 0) else (Option.bind (wrI cs1 99 700 u7 (vp_nar .boolean 0)) fun cs_16 => (m_ordered_L160 F lf_160) cs_16 u1 u2 u4 u5 u6 (u7 + 1))
def m_ordered_b155 (F : Nat) (cs1 : RS) (u1 : Int32) (u2 : Int32) (u4 : Int32) (u5 : Int32) (y0 : Int32) : Option (RS × Int32) := m_ordered_L160 F F cs1 u1 u2 u4 u5 y0 0
def m_ordered_L39 (F : Nat) (rc17 : RS → Int32 → Int32 → Int32 → Int32 → Int32 → Option (RS × Int32)) : Nat → RS → Int32 → Int32 → Int32 → Int32 → Int32 → Int32 → Int32 → Option (RS × Int32)
  | 0, _, _, _, _, _, _, _, _ => none
  | lf_39 + 1, cs1, u1, u2, u3, u4, u5, u6, u7 => if u3 ≤ u7 then (rc17 cs1 u1 u2 u3 u4 (u5 + 1)) else (Option.bind (m_rowAt F cs1 u2 u5) fun v_18 => Option.bind (rdI ((setF (setF cs1 93 v_18) 97 0).2.2.1 66) 480 ((8 * u1) + u7)) fun v_19 => Option.bind (m_eval F 300 (setF (setF cs1 93 v_18) 97 0) v_19) fun z_20 => Option.bind (wrL z_20.1 85 400000 (u6 + u7) z_20.2) fun cs_21 => Option.bind (wrI cs_21 86 400000 (u6 + u7) (vp_nar .boolean (cs_21.1 92))) fun cs_22 => (m_ordered_L39 F rc17 lf_39) cs_22 u1 u2 u3 u4 u5 u6 (u7 + 1))
def m_ordered_L17 (F : Nat) : Nat → RS → Int32 → Int32 → Int32 → Int32 → Int32 → Option (RS × Int32)
  | 0, _, _, _, _, _, _ => none
  | lf_17 + 1, cs1, u1, u2, u3, u4, u5 => Option.bind (rdI (cs1.2.2.1 89) 400 u2) fun v_23 => if v_23 ≤ u5 then (Option.bind (rdI (cs1.2.2.1 90) 400 u2) fun v_25 => Option.bind (m_relation F cs1 v_25) fun z_26 => Option.bind (rdI (z_26.1.2.2.1 89) 400 u2) fun v_27 => Option.bind (rdI (z_26.1.2.2.1 68) 60 u1) fun v_28 => if v_28 ≤ v_27 then (Option.bind (rdI (z_26.1.2.2.1 68) 60 u1) fun v_30 => m_ordered_b155 F z_26.1 u1 u2 u4 z_26.2 v_30) else (Option.bind (rdI (z_26.1.2.2.1 89) 400 u2) fun v_31 => m_ordered_b155 F z_26.1 u1 u2 u4 z_26.2 v_31)) else (Option.bind (m_newRow F cs1 u4) fun z_32 => m_ordered_L39 F (m_ordered_L17 F lf_17) F z_32.1 u1 u2 u3 u4 u5 z_32.2 0)
def m_ordered (F : Nat) (cs : RS) (x1 : Int32) (x2 : Int32) : Option (RS × Int32) := Option.bind (rdI (cs.2.2.1 64) 60 x1) fun v_33 => Option.bind (m_relation F cs v_33) fun z_34 => m_ordered_L17 F F z_34.1 x1 x2 v_33 z_34.2 0
set_option maxHeartbeats 4000000 in
set_option maxRecDepth 100000 in
theorem s_ordered (l : Launch) (dC : Nat → ClassId) (dI : Nat → Nat → Nat) (cB cI cJ cZ : ClassId) (h0 : Nat) (a : Nat → Nat) (K V : Nat → Nat) (fz : Value) (F : Nat) (cs : RS) (x1 : Int32) (x2 : Int32) (cs9 : RS) (r9 : Int32) (hf : m_ordered F cs x1 x2 = some (cs9, r9)) : okI l dC dI cB cI cJ cZ h0 a K V fz yX12_ordered (wsOf yX12_ordered cX12_ordered 10 (some .int)) (303) [.ref h0, .int x1, .int x2] cs cs9 r9 := by
  intro sz
  refine Met.ofW (cc := cX12_ordered) (maxL := 10) (ret := (some .int)) (by decide) rfl ?_
  intro p e s m args below meth c s₁ B hml hv
  obtain ⟨rfl, hsz, hP, hK, hD0, hZ⟩ := hv
  have hx := B.exec
  have hb := B.bytes
  have hr := B.returns
  have hts := atoms_spec (ws := (wsOf yX12_ordered cX12_ordered 10 (some .int))) B.pre
  have hown : s.vm.findClass RX12 = some m.cls := findClass_of_methodNamed B.named
  have hlocks := B.notSynchronized
  subst hsz
  have hD := hD0.self (sz := s.heap.size)
  generalize hAe : va_A (mW cB cI cJ cZ h0 a cs) s.heap.size = A at hD hZ ⊢
  have hA : ∀ q : Nat, s.heap.size ≤ q → A q := fun q h => by rw [← hAe]; exact Or.inr h
  have hS : va_S A s.heap s.heap [] := va_S.rf
  have hl := lv_entry ([.ref h0, .int x1, .int x2]) (n := 10) (Nat.le_of_ble_eq_true rfl)
  rw [lg_entry_eq]
  generalize (lg_sl ([.ref h0, .int x1, .int x2]) ++ List.replicate (10 - (lg_sl ([.ref h0, .int x1, .int x2])).length) Slot.unset).toArray = ls at hl ⊢
  have hl : lv_has ls 10 [(0, .ref h0), (1, .int x1), (2, .int x2)] := hl
  have L_188 : ∀ (lf_188 : Nat), ∀ (cs1 : RS) (u1 : Int32) (u2 : Int32) (u4 : Int32) (u5 : Int32) (u6 : Int32) (u7 : Int32), m_ordered_L188 F lf_188 cs1 u1 u2 u4 u5 u6 u7 = some (cs9, r9) → ∀ (H : Heap) (locs : List Loc) (ls : Array Slot), va_P (dC, dI) vwCl (mW cB cI cJ cZ h0 a cs1) H → va_D A (mW cB cI cJ cZ h0 a cs1) → va_S A s.heap H locs → lv_has ls 10 [(0, .ref h0), (1, .int u1), (2, .int u2), (4, .int u4), (5, .int u5), (6, .int u6), (7, .int u7)] → W p l e (headSpec (wsOf yX12_ordered cX12_ordered 10 (some .int)) ({ frames := 303, cells := 0, slots := 0, locals := 60 * (303) } : Room)).room s m ([.ref h0, .int x1, .int x2] : List Value).toArray below meth c H locs 0 0 (MQ below (va_Qi (fun (x : Int32) (_ : Unit) => x = r9) (fun _ t_ => va_P (dC, dI) vwCl (mW cB cI cJ cZ h0 a cs9) t_.heap ∧ va_D A (mW cB cI cJ cZ h0 a cs9)) A) ([.ref h0, .int x1, .int x2] : List Value).toArray s 0 0 A) (F0 m 188 ls []) := by
    intro lf_188
    induction lf_188 with
    | zero => intro cs1 u1 u2 u4 u5 u6 u7 h; cases (show (none : Option (RS × Int32)) = _ from h)
    | succ lf_188 ih_188 =>
      have L_201 : ∀ (lf_201 : Nat), ∀ (cs1 : RS) (u1 : Int32) (u2 : Int32) (u4 : Int32) (u5 : Int32) (u6 : Int32) (u7 : Int32) (u8 : Int32) (u9 : Int32), m_ordered_L201 F (m_ordered_L188 F lf_188) lf_201 cs1 u1 u2 u4 u5 u6 u7 u8 u9 = some (cs9, r9) → ∀ (H : Heap) (locs : List Loc) (ls : Array Slot), va_P (dC, dI) vwCl (mW cB cI cJ cZ h0 a cs1) H → va_D A (mW cB cI cJ cZ h0 a cs1) → va_S A s.heap H locs → lv_has ls 10 [(0, .ref h0), (1, .int u1), (2, .int u2), (4, .int u4), (5, .int u5), (6, .int u6), (7, .int u7), (8, .int u8), (9, .int u9)] → W p l e (headSpec (wsOf yX12_ordered cX12_ordered 10 (some .int)) ({ frames := 303, cells := 0, slots := 0, locals := 60 * (303) } : Room)).room s m ([.ref h0, .int x1, .int x2] : List Value).toArray below meth c H locs 0 0 (MQ below (va_Qi (fun (x : Int32) (_ : Unit) => x = r9) (fun _ t_ => va_P (dC, dI) vwCl (mW cB cI cJ cZ h0 a cs9) t_.heap ∧ va_D A (mW cB cI cJ cZ h0 a cs9)) A) ([.ref h0, .int x1, .int x2] : List Value).toArray s 0 0 A) (F0 m 201 ls []) := by
        intro lf_201
        induction lf_201 with
        | zero => intro cs1 u1 u2 u4 u5 u6 u7 u8 u9 h; cases (show (none : Option (RS × Int32)) = _ from h)
        | succ lf_201 ih_201 =>
          have B_247 : ∀ (cs1 : RS) (u1 : Int32) (u2 : Int32) (u4 : Int32) (u5 : Int32) (u6 : Int32) (u7 : Int32) (u8 : Int32) (u9 : Int32), m_ordered_b247 F (m_ordered_L188 F lf_188) (m_ordered_L201 F (m_ordered_L188 F lf_188) lf_201) cs1 u1 u2 u4 u5 u6 u7 u8 u9 = some (cs9, r9) → ∀ (H : Heap) (locs : List Loc) (ls : Array Slot), va_P (dC, dI) vwCl (mW cB cI cJ cZ h0 a cs1) H → va_D A (mW cB cI cJ cZ h0 a cs1) → va_S A s.heap H locs → lv_has ls 10 [(0, .ref h0), (1, .int u1), (2, .int u2), (4, .int u4), (5, .int u5), (6, .int u6), (7, .int u7), (8, .int u8), (9, .int u9)] → W p l e (headSpec (wsOf yX12_ordered cX12_ordered 10 (some .int)) ({ frames := 303, cells := 0, slots := 0, locals := 60 * (303) } : Room)).room s m ([.ref h0, .int x1, .int x2] : List Value).toArray below meth c H locs 0 0 (MQ below (va_Qi (fun (x : Int32) (_ : Unit) => x = r9) (fun _ t_ => va_P (dC, dI) vwCl (mW cB cI cJ cZ h0 a cs9) t_.heap ∧ va_D A (mW cB cI cJ cZ h0 a cs9)) A) ([.ref h0, .int x1, .int x2] : List Value).toArray s 0 0 A) (F0 m 247 ls []) := by
            intro cs1 u1 u2 u4 u5 u6 u7 u8 u9 h H locs ls hP hD hS hl
            unfold m_ordered_b247 at h
            refine lv_iinc (v := u9 + 1) (lv' := [(9, .int (u9 + 1)), (0, .ref h0), (1, .int u1), (2, .int u2), (4, .int u4), (5, .int u5), (6, .int u6), (7, .int u7), (8, .int u8)]) hx hb dX12_ordered_247 hl (k := 8) rfl rfl (by decide) rfl (fun ls hl => ?_)
            refine lv_goto (tgt := 201) hx hb dX12_ordered_250 (by decide) ?_
            exact ih_201 cs1 u1 u2 u4 u5 u6 u7 u8 (u9 + 1) h _ _ _ hP hD hS (lv_sub hl [1, 2, 3, 4, 5, 6, 7, 8, 0] rfl)
          have B_243 : ∀ (cs1 : RS) (u1 : Int32) (u2 : Int32) (u4 : Int32) (u5 : Int32) (u6 : Int32) (u7 : Int32) (u9 : Int32), m_ordered_b243 F (m_ordered_L188 F lf_188) (m_ordered_L201 F (m_ordered_L188 F lf_188) lf_201) cs1 u1 u2 u4 u5 u6 u7 u9 = some (cs9, r9) → ∀ (H : Heap) (locs : List Loc) (ls : Array Slot), va_P (dC, dI) vwCl (mW cB cI cJ cZ h0 a cs1) H → va_D A (mW cB cI cJ cZ h0 a cs1) → va_S A s.heap H locs → lv_has ls 10 [(0, .ref h0), (1, .int u1), (2, .int u2), (4, .int u4), (5, .int u5), (6, .int u6), (7, .int u7), (9, .int u9)] → W p l e (headSpec (wsOf yX12_ordered cX12_ordered 10 (some .int)) ({ frames := 303, cells := 0, slots := 0, locals := 60 * (303) } : Room)).room s m ([.ref h0, .int x1, .int x2] : List Value).toArray below meth c H locs 0 0 (MQ below (va_Qi (fun (x : Int32) (_ : Unit) => x = r9) (fun _ t_ => va_P (dC, dI) vwCl (mW cB cI cJ cZ h0 a cs9) t_.heap ∧ va_D A (mW cB cI cJ cZ h0 a cs9)) A) ([.ref h0, .int x1, .int x2] : List Value).toArray s 0 0 A) (F0 m 243 ls []) := by
            intro cs1 u1 u2 u4 u5 u6 u7 u9 h H locs ls hP hD hS hl
            unfold m_ordered_b243 at h
            refine lv_iload hx hb dX12_ordered_243 (lv_at hl 7 rfl) ?_
            refine lv_istore (lv' := [(8, .int u9), (0, .ref h0), (1, .int u1), (2, .int u2), (4, .int u4), (5, .int u5), (6, .int u6), (7, .int u7), (9, .int u9)]) hx hb dX12_ordered_245 hl (by decide) rfl (fun ls hl => ?_)
            exact B_247 cs1 u1 u2 u4 u5 u6 u7 u9 u9 h _ _ _ hP hD hS (lv_sub hl [1, 2, 3, 4, 5, 6, 7, 0, 8] rfl)
          intro cs1 u1 u2 u4 u5 u6 u7 u8 u9 h H locs ls hP hD hS hl
          rw [m_ordered_L201] at h
          refine lv_iload hx hb dX12_ordered_201 (lv_at hl 8 rfl) ?_
          refine lv_aload_n hx hb dX12_ordered_203 rfl (lv_at hl 0 rfl) ?_
          refine fg_89 hx hb hts hown hK hP dX12_ordered_204 ?_
          refine lv_iload_n hx hb dX12_ordered_207 rfl (lv_at hl 2 rfl) ?_
          obtain ⟨v_1, hv_1, h⟩ := ob h
          refine ag_89 hx hb hK hP hv_1 dX12_ordered_208 ?_
          refine lv_icmp_ge (tgt := 253) hx hb dX12_ordered_209 (by decide) (fun c_2 => ?_) (fun c_2 => ?_)
          · skip
            replace h := (if_pos c_2).symm.trans h
            refine lv_aload_n hx hb dX12_ordered_253 rfl (lv_at hl 0 rfl) ?_
            refine fg_99 hx hb hts hown hK hP dX12_ordered_254 ?_
            refine lv_iload hx hb dX12_ordered_257 (lv_at hl 7 rfl) ?_
            refine lv_iconst (v := 1) hx hb dX12_ordered_259 (by decide) ?_
            obtain ⟨cs_3, hv_3, h⟩ := ob h
            refine ap_99 hx hb hK hP hD hS hv_3 dX12_ordered_260 (fun H locs hP hD hS => ?_)
            refine lv_aload_n hx hb dX12_ordered_261 rfl (lv_at hl 0 rfl) ?_
            refine lv_aload_n hx hb dX12_ordered_262 rfl (lv_at hl 0 rfl) ?_
            refine lv_iload_n hx hb dX12_ordered_263 rfl (lv_at hl 2 rfl) ?_
            refine lv_iload hx hb dX12_ordered_264 (lv_at hl 7 rfl) ?_
            obtain ⟨v_4, hv_4, h⟩ := ob h
            refine calI (As := [.int u2, .int u8]) hx hb hml hts hown hK hP hD hS hA hZ (s_rowAt l dC dI cB cI cJ cZ h0 a K V fz F cs_3 u2 u8 v_4 hv_4) (cw_rowAt hts (fr := 0) (Nat.le_of_ble_eq_true rfl) (Nat.le_of_ble_eq_true rfl)) rfl hl.1 (Nat.le_of_ble_eq_true rfl) ⟨Nat.zero_le _, Nat.zero_le _⟩ dX12_ordered_266 (fun H locs hP hD hS => ?_)
            refine lv_aload_n hx hb dX12_ordered_269 rfl (lv_at hl 0 rfl) ?_
            refine lv_iload hx hb dX12_ordered_270 (lv_at hl 4 rfl) ?_
            obtain ⟨z_5, hv_5, h⟩ := ob h
            refine calI (As := [.int u5]) hx hb hml hts hown hK hP hD hS hA hZ (s_newRow l dC dI cB cI cJ cZ h0 a K V fz F cs_3 u5 z_5.1 z_5.2 hv_5) (cw_newRow hts (fr := 0) (Nat.le_of_ble_eq_true rfl) (Nat.le_of_ble_eq_true rfl)) rfl hl.1 (Nat.le_of_ble_eq_true rfl) ⟨Nat.zero_le _, Nat.zero_le _⟩ dX12_ordered_272 (fun H locs hP hD hS => ?_)
            refine lv_aload_n hx hb dX12_ordered_275 rfl (lv_at hl 0 rfl) ?_
            refine fg_90 hx hb hts hown hK hP dX12_ordered_276 ?_
            refine lv_iload_n hx hb dX12_ordered_279 rfl (lv_at hl 2 rfl) ?_
            obtain ⟨v_6, hv_6, h⟩ := ob h
            refine ag_90 hx hb hK hP hv_6 dX12_ordered_280 ?_
            obtain ⟨cs_7, hv_7, h⟩ := ob h
            refine calV (As := [.int v_4, .int z_5.2, .int v_6]) hx hb hml hts hown hK hP hD hS hA hZ (s_copy l dC dI cB cI cJ cZ h0 a K V fz F z_5.1 v_4 z_5.2 v_6 cs_7 hv_7) (cw_copy hts (fr := 0) (Nat.le_of_ble_eq_true rfl) (Nat.le_of_ble_eq_true rfl)) rfl hl.1 (Nat.le_of_ble_eq_true rfl) ⟨Nat.zero_le _, Nat.zero_le _⟩ dX12_ordered_281 (fun H locs hP hD hS => ?_)
            refine lv_iinc (v := u7 + 1) (lv' := [(7, .int (u7 + 1)), (0, .ref h0), (1, .int u1), (2, .int u2), (4, .int u4), (5, .int u5), (6, .int u6), (8, .int u8), (9, .int u9)]) hx hb dX12_ordered_284 hl (k := 6) rfl rfl (by decide) rfl (fun ls hl => ?_)
            refine lv_goto (tgt := 188) hx hb dX12_ordered_287 (by decide) ?_
            exact ih_188 cs_7 u1 u2 u4 u5 u6 (u7 + 1) h _ _ _ hP hD hS (lv_sub hl [1, 2, 3, 4, 5, 6, 0] rfl)
          · skip
            replace h := (if_neg c_2).symm.trans h
            refine lv_aload_n hx hb dX12_ordered_212 rfl (lv_at hl 0 rfl) ?_
            refine fg_99 hx hb hts hown hK hP dX12_ordered_213 ?_
            refine lv_iload hx hb dX12_ordered_216 (lv_at hl 8 rfl) ?_
            obtain ⟨v_8, hv_8, h⟩ := ob h
            refine ag_99 hx hb hK hP hv_8 dX12_ordered_218 ?_
            refine lv_if_ne (tgt := 247) hx hb dX12_ordered_219 (by decide) (fun c_9 => ?_) (fun c_9 => ?_)
            · skip
              replace h := (if_neg c_9).symm.trans h
              exact B_247 cs1 u1 u2 u4 u5 u6 u7 u8 u9 h _ _ _ hP hD hS (lv_sub hl [0, 1, 2, 3, 4, 5, 6, 7, 8] rfl)
            · skip
              replace h := (if_pos c_9).symm.trans h
              refine lv_iload hx hb dX12_ordered_222 (lv_at hl 7 rfl) ?_
              refine lv_iconst (v := (-1)) hx hb dX12_ordered_224 (by decide) ?_
              refine lv_icmp_eq (tgt := 243) hx hb dX12_ordered_225 (by decide) (fun c_10 => ?_) (fun c_10 => ?_)
              · skip
                replace h := (if_pos c_10).symm.trans h
                exact B_243 cs1 u1 u2 u4 u5 u6 u7 u9 h _ _ _ hP hD hS (lv_sub hl [0, 1, 2, 3, 4, 5, 6, 8] rfl)
              · skip
                replace h := (if_neg c_10).symm.trans h
                refine lv_aload_n hx hb dX12_ordered_228 rfl (lv_at hl 0 rfl) ?_
                refine lv_iload_n hx hb dX12_ordered_229 rfl (lv_at hl 1 rfl) ?_
                refine lv_iload_n hx hb dX12_ordered_230 rfl (lv_at hl 2 rfl) ?_
                refine lv_iload hx hb dX12_ordered_231 (lv_at hl 3 rfl) ?_
                refine lv_iload hx hb dX12_ordered_233 (lv_at hl 8 rfl) ?_
                refine lv_iload hx hb dX12_ordered_235 (lv_at hl 7 rfl) ?_
                obtain ⟨v_11, hv_11, h⟩ := ob h
                refine calI (As := [.int u1, .int u2, .int u4, .int u9, .int u8]) hx hb hml hts hown hK hP hD hS hA hZ (s_ahead l dC dI cB cI cJ cZ h0 a K V fz F cs1 u1 u2 u4 u9 u8 v_11 hv_11) (cw_ahead hts (fr := 2) (Nat.le_of_ble_eq_true rfl) (Nat.le_of_ble_eq_true rfl)) rfl hl.1 (Nat.le_of_ble_eq_true rfl) ⟨Nat.zero_le _, Nat.zero_le _⟩ dX12_ordered_237 (fun H locs hP hD hS => ?_)
                refine lv_if_eq (tgt := 247) hx hb dX12_ordered_240 (by decide) (fun c_12 => ?_) (fun c_12 => ?_)
                · skip
                  replace h := (if_pos c_12).symm.trans h
                  exact B_247 cs1 u1 u2 u4 u5 u6 u7 u8 u9 h _ _ _ hP hD hS (lv_sub hl [0, 1, 2, 3, 4, 5, 6, 7, 8] rfl)
                · skip
                  replace h := (if_neg c_12).symm.trans h
                  exact B_243 cs1 u1 u2 u4 u5 u6 u7 u9 h _ _ _ hP hD hS (lv_sub hl [0, 1, 2, 3, 4, 5, 6, 8] rfl)
      intro cs1 u1 u2 u4 u5 u6 u7 h H locs ls hP hD hS hl
      rw [m_ordered_L188] at h
      refine lv_iload hx hb dX12_ordered_188 (lv_at hl 6 rfl) ?_
      refine lv_iload hx hb dX12_ordered_190 (lv_at hl 5 rfl) ?_
      refine lv_icmp_ge (tgt := 290) hx hb dX12_ordered_192 (by decide) (fun c_13 => ?_) (fun c_13 => ?_)
      · skip
        replace h := (if_pos c_13).symm.trans h
        refine lv_iload hx hb dX12_ordered_290 (lv_at hl 4 rfl) ?_
        obtain ⟨e1, e2⟩ := Prod.mk.inj (Option.some.inj h)
        rw [e1] at hP hD
        exact W.iret (v := u5) hx hb hr (fun t_ ht hW => ⟨⟨u5, (), rfl, e2, by rw [ht]; exact hP, hD⟩, hS.F ht⟩) hS.2.2 dX12_ordered_292
      · skip
        replace h := (if_neg c_13).symm.trans h
        refine lv_iconst (v := (-1)) hx hb dX12_ordered_195 (by decide) ?_
        refine lv_istore (lv' := [(8, .int (-1)), (0, .ref h0), (1, .int u1), (2, .int u2), (4, .int u4), (5, .int u5), (6, .int u6), (7, .int u7)]) hx hb dX12_ordered_196 hl (by decide) rfl (fun ls hl => ?_)
        refine lv_iconst (v := 0) hx hb dX12_ordered_198 (by decide) ?_
        refine lv_istore (lv' := [(9, .int 0), (8, .int (-1)), (0, .ref h0), (1, .int u1), (2, .int u2), (4, .int u4), (5, .int u5), (6, .int u6), (7, .int u7)]) hx hb dX12_ordered_199 hl (by decide) rfl (fun ls hl => ?_)
        exact L_201 F cs1 u1 u2 u4 u5 u6 u7 (-1) 0 h _ _ _ hP hD hS (lv_sub hl [2, 3, 4, 5, 6, 7, 8, 1, 0] rfl)
  have L_160 : ∀ (lf_160 : Nat), ∀ (cs1 : RS) (u1 : Int32) (u2 : Int32) (u4 : Int32) (u5 : Int32) (u6 : Int32) (u7 : Int32), m_ordered_L160 F lf_160 cs1 u1 u2 u4 u5 u6 u7 = some (cs9, r9) → ∀ (H : Heap) (locs : List Loc) (ls : Array Slot), va_P (dC, dI) vwCl (mW cB cI cJ cZ h0 a cs1) H → va_D A (mW cB cI cJ cZ h0 a cs1) → va_S A s.heap H locs → lv_has ls 10 [(0, .ref h0), (1, .int u1), (2, .int u2), (4, .int u4), (5, .int u5), (6, .int u6), (7, .int u7)] → W p l e (headSpec (wsOf yX12_ordered cX12_ordered 10 (some .int)) ({ frames := 303, cells := 0, slots := 0, locals := 60 * (303) } : Room)).room s m ([.ref h0, .int x1, .int x2] : List Value).toArray below meth c H locs 0 0 (MQ below (va_Qi (fun (x : Int32) (_ : Unit) => x = r9) (fun _ t_ => va_P (dC, dI) vwCl (mW cB cI cJ cZ h0 a cs9) t_.heap ∧ va_D A (mW cB cI cJ cZ h0 a cs9)) A) ([.ref h0, .int x1, .int x2] : List Value).toArray s 0 0 A) (F0 m 160 ls []) := by
    intro lf_160
    induction lf_160 with
    | zero => intro cs1 u1 u2 u4 u5 u6 u7 h; cases (show (none : Option (RS × Int32)) = _ from h)
    | succ lf_160 ih_160 =>
      intro cs1 u1 u2 u4 u5 u6 u7 h H locs ls hP hD hS hl
      rw [m_ordered_L160] at h
      refine lv_iload hx hb dX12_ordered_160 (lv_at hl 6 rfl) ?_
      refine lv_aload_n hx hb dX12_ordered_162 rfl (lv_at hl 0 rfl) ?_
      refine fg_89 hx hb hts hown hK hP dX12_ordered_163 ?_
      refine lv_iload_n hx hb dX12_ordered_166 rfl (lv_at hl 2 rfl) ?_
      obtain ⟨v_14, hv_14, h⟩ := ob h
      refine ag_89 hx hb hK hP hv_14 dX12_ordered_167 ?_
      refine lv_icmp_ge (tgt := 185) hx hb dX12_ordered_168 (by decide) (fun c_15 => ?_) (fun c_15 => ?_)
      · skip
        replace h := (if_pos c_15).symm.trans h
        refine lv_iconst (v := 0) hx hb dX12_ordered_185 (by decide) ?_
        refine lv_istore (lv' := [(7, .int 0), (0, .ref h0), (1, .int u1), (2, .int u2), (4, .int u4), (5, .int u5), (6, .int u6)]) hx hb dX12_ordered_186 hl (by decide) rfl (fun ls hl => ?_)
        exact L_188 F cs1 u1 u2 u4 u5 u6 0 h _ _ _ hP hD hS (lv_sub hl [1, 2, 3, 4, 5, 6, 0] rfl)
      · skip
        replace h := (if_neg c_15).symm.trans h
        refine lv_aload_n hx hb dX12_ordered_171 rfl (lv_at hl 0 rfl) ?_
        refine fg_99 hx hb hts hown hK hP dX12_ordered_172 ?_
        refine lv_iload hx hb dX12_ordered_175 (lv_at hl 6 rfl) ?_
        refine lv_iconst (v := 0) hx hb dX12_ordered_177 (by decide) ?_
        obtain ⟨cs_16, hv_16, h⟩ := ob h
        refine ap_99 hx hb hK hP hD hS hv_16 dX12_ordered_178 (fun H locs hP hD hS => ?_)
        refine lv_iinc (v := u7 + 1) (lv' := [(7, .int (u7 + 1)), (0, .ref h0), (1, .int u1), (2, .int u2), (4, .int u4), (5, .int u5), (6, .int u6)]) hx hb dX12_ordered_179 hl (k := 6) rfl rfl (by decide) rfl (fun ls hl => ?_)
        refine lv_goto (tgt := 160) hx hb dX12_ordered_182 (by decide) ?_
        exact ih_160 cs_16 u1 u2 u4 u5 u6 (u7 + 1) h _ _ _ hP hD hS (lv_sub hl [1, 2, 3, 4, 5, 6, 0] rfl)
  have B_155 : ∀ (cs1 : RS) (u1 : Int32) (u2 : Int32) (u4 : Int32) (u5 : Int32) (y0 : Int32), m_ordered_b155 F cs1 u1 u2 u4 u5 y0 = some (cs9, r9) → ∀ (H : Heap) (locs : List Loc) (ls : Array Slot), va_P (dC, dI) vwCl (mW cB cI cJ cZ h0 a cs1) H → va_D A (mW cB cI cJ cZ h0 a cs1) → va_S A s.heap H locs → lv_has ls 10 [(0, .ref h0), (1, .int u1), (2, .int u2), (4, .int u4), (5, .int u5)] → W p l e (headSpec (wsOf yX12_ordered cX12_ordered 10 (some .int)) ({ frames := 303, cells := 0, slots := 0, locals := 60 * (303) } : Room)).room s m ([.ref h0, .int x1, .int x2] : List Value).toArray below meth c H locs 0 0 (MQ below (va_Qi (fun (x : Int32) (_ : Unit) => x = r9) (fun _ t_ => va_P (dC, dI) vwCl (mW cB cI cJ cZ h0 a cs9) t_.heap ∧ va_D A (mW cB cI cJ cZ h0 a cs9)) A) ([.ref h0, .int x1, .int x2] : List Value).toArray s 0 0 A) (F0 m 155 ls [.int y0]) := by
    intro cs1 u1 u2 u4 u5 y0 h H locs ls hP hD hS hl
    unfold m_ordered_b155 at h
    refine lv_istore (lv' := [(6, .int y0), (0, .ref h0), (1, .int u1), (2, .int u2), (4, .int u4), (5, .int u5)]) hx hb dX12_ordered_155 hl (by decide) rfl (fun ls hl => ?_)
    refine lv_iconst (v := 0) hx hb dX12_ordered_157 (by decide) ?_
    refine lv_istore (lv' := [(7, .int 0), (6, .int y0), (0, .ref h0), (1, .int u1), (2, .int u2), (4, .int u4), (5, .int u5)]) hx hb dX12_ordered_158 hl (by decide) rfl (fun ls hl => ?_)
    exact L_160 F cs1 u1 u2 u4 u5 y0 0 h _ _ _ hP hD hS (lv_sub hl [2, 3, 4, 5, 6, 1, 0] rfl)
  have L_17 : ∀ (lf_17 : Nat), ∀ (cs1 : RS) (u1 : Int32) (u2 : Int32) (u3 : Int32) (u4 : Int32) (u5 : Int32), m_ordered_L17 F lf_17 cs1 u1 u2 u3 u4 u5 = some (cs9, r9) → ∀ (H : Heap) (locs : List Loc) (ls : Array Slot), va_P (dC, dI) vwCl (mW cB cI cJ cZ h0 a cs1) H → va_D A (mW cB cI cJ cZ h0 a cs1) → va_S A s.heap H locs → lv_has ls 10 [(0, .ref h0), (1, .int u1), (2, .int u2), (3, .int u3), (4, .int u4), (5, .int u5)] → W p l e (headSpec (wsOf yX12_ordered cX12_ordered 10 (some .int)) ({ frames := 303, cells := 0, slots := 0, locals := 60 * (303) } : Room)).room s m ([.ref h0, .int x1, .int x2] : List Value).toArray below meth c H locs 0 0 (MQ below (va_Qi (fun (x : Int32) (_ : Unit) => x = r9) (fun _ t_ => va_P (dC, dI) vwCl (mW cB cI cJ cZ h0 a cs9) t_.heap ∧ va_D A (mW cB cI cJ cZ h0 a cs9)) A) ([.ref h0, .int x1, .int x2] : List Value).toArray s 0 0 A) (F0 m 17 ls []) := by
    intro lf_17
    induction lf_17 with
    | zero => intro cs1 u1 u2 u3 u4 u5 h; cases (show (none : Option (RS × Int32)) = _ from h)
    | succ lf_17 ih_17 =>
      have L_39 : ∀ (lf_39 : Nat), ∀ (cs1 : RS) (u1 : Int32) (u2 : Int32) (u3 : Int32) (u4 : Int32) (u5 : Int32) (u6 : Int32) (u7 : Int32), m_ordered_L39 F (m_ordered_L17 F lf_17) lf_39 cs1 u1 u2 u3 u4 u5 u6 u7 = some (cs9, r9) → ∀ (H : Heap) (locs : List Loc) (ls : Array Slot), va_P (dC, dI) vwCl (mW cB cI cJ cZ h0 a cs1) H → va_D A (mW cB cI cJ cZ h0 a cs1) → va_S A s.heap H locs → lv_has ls 10 [(0, .ref h0), (1, .int u1), (2, .int u2), (3, .int u3), (4, .int u4), (5, .int u5), (6, .int u6), (7, .int u7)] → W p l e (headSpec (wsOf yX12_ordered cX12_ordered 10 (some .int)) ({ frames := 303, cells := 0, slots := 0, locals := 60 * (303) } : Room)).room s m ([.ref h0, .int x1, .int x2] : List Value).toArray below meth c H locs 0 0 (MQ below (va_Qi (fun (x : Int32) (_ : Unit) => x = r9) (fun _ t_ => va_P (dC, dI) vwCl (mW cB cI cJ cZ h0 a cs9) t_.heap ∧ va_D A (mW cB cI cJ cZ h0 a cs9)) A) ([.ref h0, .int x1, .int x2] : List Value).toArray s 0 0 A) (F0 m 39 ls []) := by
        intro lf_39
        induction lf_39 with
        | zero => intro cs1 u1 u2 u3 u4 u5 u6 u7 h; cases (show (none : Option (RS × Int32)) = _ from h)
        | succ lf_39 ih_39 =>
          intro cs1 u1 u2 u3 u4 u5 u6 u7 h H locs ls hP hD hS hl
          rw [m_ordered_L39] at h
          refine lv_iload hx hb dX12_ordered_39 (lv_at hl 7 rfl) ?_
          refine lv_iload_n hx hb dX12_ordered_41 rfl (lv_at hl 3 rfl) ?_
          refine lv_icmp_ge (tgt := 107) hx hb dX12_ordered_42 (by decide) (fun c_17 => ?_) (fun c_17 => ?_)
          · skip
            replace h := (if_pos c_17).symm.trans h
            refine lv_iinc (v := u5 + 1) (lv' := [(5, .int (u5 + 1)), (0, .ref h0), (1, .int u1), (2, .int u2), (3, .int u3), (4, .int u4), (6, .int u6), (7, .int u7)]) hx hb dX12_ordered_107 hl (k := 5) rfl rfl (by decide) rfl (fun ls hl => ?_)
            refine lv_goto (tgt := 17) hx hb dX12_ordered_110 (by decide) ?_
            exact ih_17 cs1 u1 u2 u3 u4 (u5 + 1) h _ _ _ hP hD hS (lv_sub hl [1, 2, 3, 4, 5, 0] rfl)
          · skip
            replace h := (if_neg c_17).symm.trans h
            refine lv_aload_n hx hb dX12_ordered_45 rfl (lv_at hl 0 rfl) ?_
            refine lv_aload_n hx hb dX12_ordered_46 rfl (lv_at hl 0 rfl) ?_
            refine lv_iload_n hx hb dX12_ordered_47 rfl (lv_at hl 2 rfl) ?_
            refine lv_iload hx hb dX12_ordered_48 (lv_at hl 5 rfl) ?_
            obtain ⟨v_18, hv_18, h⟩ := ob h
            refine calI (As := [.int u2, .int u5]) hx hb hml hts hown hK hP hD hS hA hZ (s_rowAt l dC dI cB cI cJ cZ h0 a K V fz F cs1 u2 u5 v_18 hv_18) (cw_rowAt hts (fr := 0) (Nat.le_of_ble_eq_true rfl) (Nat.le_of_ble_eq_true rfl)) rfl hl.1 (Nat.le_of_ble_eq_true rfl) ⟨Nat.zero_le _, Nat.zero_le _⟩ dX12_ordered_50 (fun H locs hP hD hS => ?_)
            refine fp_93 hx hb hts hown hK hP hD hS dX12_ordered_53 (fun H locs hP hD hS => ?_)
            refine lv_aload_n hx hb dX12_ordered_56 rfl (lv_at hl 0 rfl) ?_
            refine lv_iconst (v := 0) hx hb dX12_ordered_57 (by decide) ?_
            refine fp_97 hx hb hts hown hK hP hD hS (Or.inl rfl) dX12_ordered_58 (fun H locs hP hD hS => ?_)
            refine lv_aload_n hx hb dX12_ordered_61 rfl (lv_at hl 0 rfl) ?_
            refine fg_85 hx hb hts hown hK hP dX12_ordered_62 ?_
            refine lv_iload hx hb dX12_ordered_65 (lv_at hl 6 rfl) ?_
            refine lv_iload hx hb dX12_ordered_67 (lv_at hl 7 rfl) ?_
            refine lv_iadd hx hb dX12_ordered_69 ?_
            refine lv_aload_n hx hb dX12_ordered_70 rfl (lv_at hl 0 rfl) ?_
            refine lv_aload_n hx hb dX12_ordered_71 rfl (lv_at hl 0 rfl) ?_
            refine fg_66 hx hb hts hown hK hP dX12_ordered_72 ?_
            refine lv_bipush (v := 8) hx hb dX12_ordered_75 (by decide) ?_
            refine lv_iload_n hx hb dX12_ordered_77 rfl (lv_at hl 1 rfl) ?_
            refine lv_imul hx hb dX12_ordered_78 ?_
            refine lv_iload hx hb dX12_ordered_79 (lv_at hl 7 rfl) ?_
            refine lv_iadd hx hb dX12_ordered_81 ?_
            obtain ⟨v_19, hv_19, h⟩ := ob h
            refine ag_66 hx hb hK hP hv_19 dX12_ordered_82 ?_
            obtain ⟨z_20, hv_20, h⟩ := ob h
            refine calL (As := [.int v_19]) hx hb hml hts hown hK hP hD hS hA hZ (s_eval l dC dI cB cI cJ cZ h0 a K V fz F 300 (setF (setF cs1 93 v_18) 97 0) v_19 z_20.1 z_20.2 hv_20) (cw_eval hts (fr := 302) (Nat.le_of_ble_eq_true rfl) (Nat.le_of_ble_eq_true rfl)) rfl hl.1 (Nat.le_of_ble_eq_true rfl) ⟨Nat.zero_le _, Nat.zero_le _⟩ dX12_ordered_83 (fun H locs hP hD hS => ?_)
            obtain ⟨cs_21, hv_21, h⟩ := ob h
            refine ap_85 hx hb hK hP hD hS hv_21 dX12_ordered_86 (fun H locs hP hD hS => ?_)
            refine lv_aload_n hx hb dX12_ordered_87 rfl (lv_at hl 0 rfl) ?_
            refine fg_86 hx hb hts hown hK hP dX12_ordered_88 ?_
            refine lv_iload hx hb dX12_ordered_91 (lv_at hl 6 rfl) ?_
            refine lv_iload hx hb dX12_ordered_93 (lv_at hl 7 rfl) ?_
            refine lv_iadd hx hb dX12_ordered_95 ?_
            refine lv_aload_n hx hb dX12_ordered_96 rfl (lv_at hl 0 rfl) ?_
            refine fg_92 hx hb hts hown hK hP dX12_ordered_97 ?_
            obtain ⟨cs_22, hv_22, h⟩ := ob h
            refine ap_86 hx hb hK hP hD hS hv_22 dX12_ordered_100 (fun H locs hP hD hS => ?_)
            refine lv_iinc (v := u7 + 1) (lv' := [(7, .int (u7 + 1)), (0, .ref h0), (1, .int u1), (2, .int u2), (3, .int u3), (4, .int u4), (5, .int u5), (6, .int u6)]) hx hb dX12_ordered_101 hl (k := 7) rfl rfl (by decide) rfl (fun ls hl => ?_)
            refine lv_goto (tgt := 39) hx hb dX12_ordered_104 (by decide) ?_
            exact ih_39 cs_22 u1 u2 u3 u4 u5 u6 (u7 + 1) h _ _ _ hP hD hS (lv_sub hl [1, 2, 3, 4, 5, 6, 7, 0] rfl)
      intro cs1 u1 u2 u3 u4 u5 h H locs ls hP hD hS hl
      rw [m_ordered_L17] at h
      refine lv_iload hx hb dX12_ordered_17 (lv_at hl 5 rfl) ?_
      refine lv_aload_n hx hb dX12_ordered_19 rfl (lv_at hl 0 rfl) ?_
      refine fg_89 hx hb hts hown hK hP dX12_ordered_20 ?_
      refine lv_iload_n hx hb dX12_ordered_23 rfl (lv_at hl 2 rfl) ?_
      obtain ⟨v_23, hv_23, h⟩ := ob h
      refine ag_89 hx hb hK hP hv_23 dX12_ordered_24 ?_
      refine lv_icmp_ge (tgt := 113) hx hb dX12_ordered_25 (by decide) (fun c_24 => ?_) (fun c_24 => ?_)
      · skip
        replace h := (if_pos c_24).symm.trans h
        refine lv_aload_n hx hb dX12_ordered_113 rfl (lv_at hl 0 rfl) ?_
        refine lv_aload_n hx hb dX12_ordered_114 rfl (lv_at hl 0 rfl) ?_
        refine fg_90 hx hb hts hown hK hP dX12_ordered_115 ?_
        refine lv_iload_n hx hb dX12_ordered_118 rfl (lv_at hl 2 rfl) ?_
        obtain ⟨v_25, hv_25, h⟩ := ob h
        refine ag_90 hx hb hK hP hv_25 dX12_ordered_119 ?_
        obtain ⟨z_26, hv_26, h⟩ := ob h
        refine calI (As := [.int v_25]) hx hb hml hts hown hK hP hD hS hA hZ (s_relation l dC dI cB cI cJ cZ h0 a K V fz F cs1 v_25 z_26.1 z_26.2 hv_26) (cw_relation hts (fr := 0) (Nat.le_of_ble_eq_true rfl) (Nat.le_of_ble_eq_true rfl)) rfl hl.1 (Nat.le_of_ble_eq_true rfl) ⟨Nat.zero_le _, Nat.zero_le _⟩ dX12_ordered_120 (fun H locs hP hD hS => ?_)
        refine lv_istore (lv' := [(5, .int z_26.2), (0, .ref h0), (1, .int u1), (2, .int u2), (3, .int u3), (4, .int u4)]) hx hb dX12_ordered_123 hl (by decide) rfl (fun ls hl => ?_)
        refine lv_aload_n hx hb dX12_ordered_125 rfl (lv_at hl 1 rfl) ?_
        refine fg_89 hx hb hts hown hK hP dX12_ordered_126 ?_
        refine lv_iload_n hx hb dX12_ordered_129 rfl (lv_at hl 3 rfl) ?_
        obtain ⟨v_27, hv_27, h⟩ := ob h
        refine ag_89 hx hb hK hP hv_27 dX12_ordered_130 ?_
        refine lv_aload_n hx hb dX12_ordered_131 rfl (lv_at hl 1 rfl) ?_
        refine fg_68 hx hb hts hown hK hP dX12_ordered_132 ?_
        refine lv_iload_n hx hb dX12_ordered_135 rfl (lv_at hl 2 rfl) ?_
        obtain ⟨v_28, hv_28, h⟩ := ob h
        refine ag_68 hx hb hK hP hv_28 dX12_ordered_136 ?_
        refine lv_icmp_ge (tgt := 149) hx hb dX12_ordered_137 (by decide) (fun c_29 => ?_) (fun c_29 => ?_)
        · skip
          replace h := (if_pos c_29).symm.trans h
          refine lv_aload_n hx hb dX12_ordered_149 rfl (lv_at hl 1 rfl) ?_
          refine fg_68 hx hb hts hown hK hP dX12_ordered_150 ?_
          refine lv_iload_n hx hb dX12_ordered_153 rfl (lv_at hl 2 rfl) ?_
          obtain ⟨v_30, hv_30, h⟩ := ob h
          refine ag_68 hx hb hK hP hv_30 dX12_ordered_154 ?_
          exact B_155 z_26.1 u1 u2 u4 z_26.2 v_30 h _ _ _ hP hD hS (lv_sub hl [1, 2, 3, 5, 0] rfl)
        · skip
          replace h := (if_neg c_29).symm.trans h
          refine lv_aload_n hx hb dX12_ordered_140 rfl (lv_at hl 1 rfl) ?_
          refine fg_89 hx hb hts hown hK hP dX12_ordered_141 ?_
          refine lv_iload_n hx hb dX12_ordered_144 rfl (lv_at hl 3 rfl) ?_
          obtain ⟨v_31, hv_31, h⟩ := ob h
          refine ag_89 hx hb hK hP hv_31 dX12_ordered_145 ?_
          refine lv_goto (tgt := 155) hx hb dX12_ordered_146 (by decide) ?_
          exact B_155 z_26.1 u1 u2 u4 z_26.2 v_31 h _ _ _ hP hD hS (lv_sub hl [1, 2, 3, 5, 0] rfl)
      · skip
        replace h := (if_neg c_24).symm.trans h
        refine lv_aload_n hx hb dX12_ordered_28 rfl (lv_at hl 0 rfl) ?_
        refine lv_iload hx hb dX12_ordered_29 (lv_at hl 4 rfl) ?_
        obtain ⟨z_32, hv_32, h⟩ := ob h
        refine calI (As := [.int u4]) hx hb hml hts hown hK hP hD hS hA hZ (s_newRow l dC dI cB cI cJ cZ h0 a K V fz F cs1 u4 z_32.1 z_32.2 hv_32) (cw_newRow hts (fr := 0) (Nat.le_of_ble_eq_true rfl) (Nat.le_of_ble_eq_true rfl)) rfl hl.1 (Nat.le_of_ble_eq_true rfl) ⟨Nat.zero_le _, Nat.zero_le _⟩ dX12_ordered_31 (fun H locs hP hD hS => ?_)
        refine lv_istore (lv' := [(6, .int z_32.2), (0, .ref h0), (1, .int u1), (2, .int u2), (3, .int u3), (4, .int u4), (5, .int u5)]) hx hb dX12_ordered_34 hl (by decide) rfl (fun ls hl => ?_)
        refine lv_iconst (v := 0) hx hb dX12_ordered_36 (by decide) ?_
        refine lv_istore (lv' := [(7, .int 0), (6, .int z_32.2), (0, .ref h0), (1, .int u1), (2, .int u2), (3, .int u3), (4, .int u4), (5, .int u5)]) hx hb dX12_ordered_37 hl (by decide) rfl (fun ls hl => ?_)
        exact L_39 F z_32.1 u1 u2 u3 u4 u5 z_32.2 0 h _ _ _ hP hD hS (lv_sub hl [2, 3, 4, 5, 6, 7, 1, 0] rfl)
  have h := hf
  unfold m_ordered at h
  refine lv_aload_n hx hb dX12_ordered_0 rfl (lv_at hl 0 rfl) ?_
  refine fg_64 hx hb hts hown hK hP dX12_ordered_1 ?_
  refine lv_iload_n hx hb dX12_ordered_4 rfl (lv_at hl 1 rfl) ?_
  obtain ⟨v_33, hv_33, h⟩ := ob h
  refine ag_64 hx hb hK hP hv_33 dX12_ordered_5 ?_
  refine lv_istore_n (lv' := [(3, .int v_33), (0, .ref h0), (1, .int x1), (2, .int x2)]) hx hb dX12_ordered_6 rfl hl (by decide) rfl (fun ls hl => ?_)
  refine lv_aload_n hx hb dX12_ordered_7 rfl (lv_at hl 1 rfl) ?_
  refine lv_iload_n hx hb dX12_ordered_8 rfl (lv_at hl 0 rfl) ?_
  obtain ⟨z_34, hv_34, h⟩ := ob h
  refine calI (As := [.int v_33]) hx hb hml hts hown hK hP hD hS hA hZ (s_relation l dC dI cB cI cJ cZ h0 a K V fz F cs v_33 z_34.1 z_34.2 hv_34) (cw_relation hts (fr := 0) (Nat.le_of_ble_eq_true rfl) (Nat.le_of_ble_eq_true rfl)) rfl hl.1 (Nat.le_of_ble_eq_true rfl) ⟨Nat.zero_le _, Nat.zero_le _⟩ dX12_ordered_9 (fun H locs hP hD hS => ?_)
  refine lv_istore (lv' := [(4, .int z_34.2), (3, .int v_33), (0, .ref h0), (1, .int x1), (2, .int x2)]) hx hb dX12_ordered_12 hl (by decide) rfl (fun ls hl => ?_)
  refine lv_iconst (v := 0) hx hb dX12_ordered_14 (by decide) ?_
  refine lv_istore (lv' := [(5, .int 0), (4, .int z_34.2), (3, .int v_33), (0, .ref h0), (1, .int x1), (2, .int x2)]) hx hb dX12_ordered_15 hl (by decide) rfl (fun ls hl => ?_)
  exact L_17 F z_34.1 x1 x2 v_33 z_34.2 0 h _ _ _ hP hD hS (lv_sub hl [3, 4, 5, 2, 1, 0] rfl)
theorem cw_ordered {R : Room} {s : State} {args : Array Value} {y0 : MethodName} {c0 : ByteArray} {n0 : Nat} {r0 : Option FieldType} (hts : ∀ w ∈ wsOf y0 c0 n0 r0, w.before args s = true) {fr : Nat} (h1 : fr + 1 ≤ R.frames) (h2 : 8 + (10 + 11) + 60 * fr ≤ R.locals) : CallW R s args RX12 RX12 706 yX12_ordered cX12_ordered 10 (some .int) (wsOf yX12_ordered cX12_ordered 10 (some .int)) ({ frames := fr, cells := 0, slots := 0, locals := 60 * fr } : Room) 0 0 2 := cwV 2 hts (gd_all (in_V kw_2188 kw_2190 kw_126 kw_191 kc_X12_ordered)) rfl rfl rfl (by decide +kernel) ⟨h1, h2⟩
