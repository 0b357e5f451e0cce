/-! mergeRuns -/
theorem dX8_mergeRuns_0 : decode cX8_mergeRuns 0 = .ok (.iconst 0, 1) := by decide +kernel
theorem dX8_mergeRuns_1 : decode cX8_mergeRuns 1 = .ok (.istore 5, 2) := by decide +kernel
theorem dX8_mergeRuns_3 : decode cX8_mergeRuns 3 = .ok (.iconst 0, 1) := by decide +kernel
theorem dX8_mergeRuns_4 : decode cX8_mergeRuns 4 = .ok (.istore 6, 2) := by decide +kernel
theorem dX8_mergeRuns_6 : decode cX8_mergeRuns 6 = .ok (.iload 6, 2) := by decide +kernel
theorem dX8_mergeRuns_8 : decode cX8_mergeRuns 8 = .ok (.iload_n 2, 1) := by decide +kernel
theorem dX8_mergeRuns_9 : decode cX8_mergeRuns 9 = .ok (.if_icmp .ge 172, 3) := by decide +kernel
theorem dX8_mergeRuns_12 : decode cX8_mergeRuns 12 = .ok (.iload 6, 2) := by decide +kernel
theorem dX8_mergeRuns_14 : decode cX8_mergeRuns 14 = .ok (.iload_n 1, 1) := by decide +kernel
theorem dX8_mergeRuns_15 : decode cX8_mergeRuns 15 = .ok (.iadd, 1) := by decide +kernel
theorem dX8_mergeRuns_16 : decode cX8_mergeRuns 16 = .ok (.iload_n 2, 1) := by decide +kernel
theorem dX8_mergeRuns_17 : decode cX8_mergeRuns 17 = .ok (.invokestatic 77, 3) := by decide +kernel
theorem dX8_mergeRuns_20 : decode cX8_mergeRuns 20 = .ok (.istore 7, 2) := by decide +kernel
theorem dX8_mergeRuns_22 : decode cX8_mergeRuns 22 = .ok (.iload 6, 2) := by decide +kernel
theorem dX8_mergeRuns_24 : decode cX8_mergeRuns 24 = .ok (.iconst 2, 1) := by decide +kernel
theorem dX8_mergeRuns_25 : decode cX8_mergeRuns 25 = .ok (.iload_n 1, 1) := by decide +kernel
theorem dX8_mergeRuns_26 : decode cX8_mergeRuns 26 = .ok (.imul, 1) := by decide +kernel
theorem dX8_mergeRuns_27 : decode cX8_mergeRuns 27 = .ok (.iadd, 1) := by decide +kernel
theorem dX8_mergeRuns_28 : decode cX8_mergeRuns 28 = .ok (.iload_n 2, 1) := by decide +kernel
theorem dX8_mergeRuns_29 : decode cX8_mergeRuns 29 = .ok (.invokestatic 77, 3) := by decide +kernel
theorem dX8_mergeRuns_32 : decode cX8_mergeRuns 32 = .ok (.istore 8, 2) := by decide +kernel
theorem dX8_mergeRuns_34 : decode cX8_mergeRuns 34 = .ok (.iload 6, 2) := by decide +kernel
theorem dX8_mergeRuns_36 : decode cX8_mergeRuns 36 = .ok (.istore 9, 2) := by decide +kernel
theorem dX8_mergeRuns_38 : decode cX8_mergeRuns 38 = .ok (.iload 7, 2) := by decide +kernel
theorem dX8_mergeRuns_40 : decode cX8_mergeRuns 40 = .ok (.istore 10, 2) := by decide +kernel
theorem dX8_mergeRuns_42 : decode cX8_mergeRuns 42 = .ok (.iload 5, 2) := by decide +kernel
theorem dX8_mergeRuns_44 : decode cX8_mergeRuns 44 = .ok (.iload 8, 2) := by decide +kernel
theorem dX8_mergeRuns_46 : decode cX8_mergeRuns 46 = .ok (.if_icmp .ge 124, 3) := by decide +kernel
theorem dX8_mergeRuns_49 : decode cX8_mergeRuns 49 = .ok (.iload 5, 2) := by decide +kernel
theorem dX8_mergeRuns_51 : decode cX8_mergeRuns 51 = .ok (.aload_n 0, 1) := by decide +kernel
theorem dX8_mergeRuns_52 : decode cX8_mergeRuns 52 = .ok (.getfield 23, 3) := by decide +kernel
theorem dX8_mergeRuns_55 : decode cX8_mergeRuns 55 = .ok (.arraylength, 1) := by decide +kernel
theorem dX8_mergeRuns_56 : decode cX8_mergeRuns 56 = .ok (.if_icmp .ge 114, 3) := by decide +kernel
theorem dX8_mergeRuns_59 : decode cX8_mergeRuns 59 = .ok (.iload 9, 2) := by decide +kernel
theorem dX8_mergeRuns_61 : decode cX8_mergeRuns 61 = .ok (.iload 7, 2) := by decide +kernel
theorem dX8_mergeRuns_63 : decode cX8_mergeRuns 63 = .ok (.if_icmp .ge 35, 3) := by decide +kernel
theorem dX8_mergeRuns_66 : decode cX8_mergeRuns 66 = .ok (.iload 10, 2) := by decide +kernel
theorem dX8_mergeRuns_68 : decode cX8_mergeRuns 68 = .ok (.iload 8, 2) := by decide +kernel
theorem dX8_mergeRuns_70 : decode cX8_mergeRuns 70 = .ok (.if_icmp .ge 32, 3) := by decide +kernel
theorem dX8_mergeRuns_73 : decode cX8_mergeRuns 73 = .ok (.aload_n 0, 1) := by decide +kernel
theorem dX8_mergeRuns_74 : decode cX8_mergeRuns 74 = .ok (.aload_n 0, 1) := by decide +kernel
theorem dX8_mergeRuns_75 : decode cX8_mergeRuns 75 = .ok (.getfield 19, 3) := by decide +kernel
theorem dX8_mergeRuns_78 : decode cX8_mergeRuns 78 = .ok (.iload 10, 2) := by decide +kernel
theorem dX8_mergeRuns_80 : decode cX8_mergeRuns 80 = .ok (.iaload, 1) := by decide +kernel
theorem dX8_mergeRuns_81 : decode cX8_mergeRuns 81 = .ok (.aload_n 0, 1) := by decide +kernel
theorem dX8_mergeRuns_82 : decode cX8_mergeRuns 82 = .ok (.aload_n 0, 1) := by decide +kernel
theorem dX8_mergeRuns_83 : decode cX8_mergeRuns 83 = .ok (.getfield 19, 3) := by decide +kernel
theorem dX8_mergeRuns_86 : decode cX8_mergeRuns 86 = .ok (.iload 9, 2) := by decide +kernel
theorem dX8_mergeRuns_88 : decode cX8_mergeRuns 88 = .ok (.iaload, 1) := by decide +kernel
theorem dX8_mergeRuns_89 : decode cX8_mergeRuns 89 = .ok (.iload_n 3, 1) := by decide +kernel
theorem dX8_mergeRuns_90 : decode cX8_mergeRuns 90 = .ok (.iload 4, 2) := by decide +kernel
theorem dX8_mergeRuns_92 : decode cX8_mergeRuns 92 = .ok (.invokevirtual 65, 3) := by decide +kernel
theorem dX8_mergeRuns_95 : decode cX8_mergeRuns 95 = .ok (.ifCond .ge 7, 3) := by decide +kernel
theorem dX8_mergeRuns_98 : decode cX8_mergeRuns 98 = .ok (.iconst 1, 1) := by decide +kernel
theorem dX8_mergeRuns_99 : decode cX8_mergeRuns 99 = .ok (.goto 4, 3) := by decide +kernel
theorem dX8_mergeRuns_102 : decode cX8_mergeRuns 102 = .ok (.iconst 0, 1) := by decide +kernel
theorem dX8_mergeRuns_103 : decode cX8_mergeRuns 103 = .ok (.istore 11, 2) := by decide +kernel
theorem dX8_mergeRuns_105 : decode cX8_mergeRuns 105 = .ok (.aload_n 0, 1) := by decide +kernel
theorem dX8_mergeRuns_106 : decode cX8_mergeRuns 106 = .ok (.getfield 23, 3) := by decide +kernel
theorem dX8_mergeRuns_109 : decode cX8_mergeRuns 109 = .ok (.iload 5, 2) := by decide +kernel
theorem dX8_mergeRuns_111 : decode cX8_mergeRuns 111 = .ok (.iload 11, 2) := by decide +kernel
theorem dX8_mergeRuns_113 : decode cX8_mergeRuns 113 = .ok (.ifCond .eq 13, 3) := by decide +kernel
theorem dX8_mergeRuns_116 : decode cX8_mergeRuns 116 = .ok (.aload_n 0, 1) := by decide +kernel
theorem dX8_mergeRuns_117 : decode cX8_mergeRuns 117 = .ok (.getfield 19, 3) := by decide +kernel
theorem dX8_mergeRuns_120 : decode cX8_mergeRuns 120 = .ok (.iload 10, 2) := by decide +kernel
theorem dX8_mergeRuns_122 : decode cX8_mergeRuns 122 = .ok (.iaload, 1) := by decide +kernel
theorem dX8_mergeRuns_123 : decode cX8_mergeRuns 123 = .ok (.goto 10, 3) := by decide +kernel
theorem dX8_mergeRuns_126 : decode cX8_mergeRuns 126 = .ok (.aload_n 0, 1) := by decide +kernel
theorem dX8_mergeRuns_127 : decode cX8_mergeRuns 127 = .ok (.getfield 19, 3) := by decide +kernel
theorem dX8_mergeRuns_130 : decode cX8_mergeRuns 130 = .ok (.iload 9, 2) := by decide +kernel
theorem dX8_mergeRuns_132 : decode cX8_mergeRuns 132 = .ok (.iaload, 1) := by decide +kernel
theorem dX8_mergeRuns_133 : decode cX8_mergeRuns 133 = .ok (.iastore, 1) := by decide +kernel
theorem dX8_mergeRuns_134 : decode cX8_mergeRuns 134 = .ok (.iload 10, 2) := by decide +kernel
theorem dX8_mergeRuns_136 : decode cX8_mergeRuns 136 = .ok (.iload 11, 2) := by decide +kernel
theorem dX8_mergeRuns_138 : decode cX8_mergeRuns 138 = .ok (.ifCond .eq 7, 3) := by decide +kernel
theorem dX8_mergeRuns_141 : decode cX8_mergeRuns 141 = .ok (.iconst 1, 1) := by decide +kernel
theorem dX8_mergeRuns_142 : decode cX8_mergeRuns 142 = .ok (.goto 4, 3) := by decide +kernel
theorem dX8_mergeRuns_145 : decode cX8_mergeRuns 145 = .ok (.iconst 0, 1) := by decide +kernel
theorem dX8_mergeRuns_146 : decode cX8_mergeRuns 146 = .ok (.iadd, 1) := by decide +kernel
theorem dX8_mergeRuns_147 : decode cX8_mergeRuns 147 = .ok (.istore 10, 2) := by decide +kernel
theorem dX8_mergeRuns_149 : decode cX8_mergeRuns 149 = .ok (.iload 9, 2) := by decide +kernel
theorem dX8_mergeRuns_151 : decode cX8_mergeRuns 151 = .ok (.iload 11, 2) := by decide +kernel
theorem dX8_mergeRuns_153 : decode cX8_mergeRuns 153 = .ok (.ifCond .eq 7, 3) := by decide +kernel
theorem dX8_mergeRuns_156 : decode cX8_mergeRuns 156 = .ok (.iconst 0, 1) := by decide +kernel
theorem dX8_mergeRuns_157 : decode cX8_mergeRuns 157 = .ok (.goto 4, 3) := by decide +kernel
theorem dX8_mergeRuns_160 : decode cX8_mergeRuns 160 = .ok (.iconst 1, 1) := by decide +kernel
theorem dX8_mergeRuns_161 : decode cX8_mergeRuns 161 = .ok (.iadd, 1) := by decide +kernel
theorem dX8_mergeRuns_162 : decode cX8_mergeRuns 162 = .ok (.istore 9, 2) := by decide +kernel
theorem dX8_mergeRuns_164 : decode cX8_mergeRuns 164 = .ok (.iinc 5 1, 3) := by decide +kernel
theorem dX8_mergeRuns_167 : decode cX8_mergeRuns 167 = .ok (.goto (-125), 3) := by decide +kernel
theorem dX8_mergeRuns_170 : decode cX8_mergeRuns 170 = .ok (.iload 6, 2) := by decide +kernel
theorem dX8_mergeRuns_172 : decode cX8_mergeRuns 172 = .ok (.iconst 2, 1) := by decide +kernel
theorem dX8_mergeRuns_173 : decode cX8_mergeRuns 173 = .ok (.iload_n 1, 1) := by decide +kernel
theorem dX8_mergeRuns_174 : decode cX8_mergeRuns 174 = .ok (.imul, 1) := by decide +kernel
theorem dX8_mergeRuns_175 : decode cX8_mergeRuns 175 = .ok (.iadd, 1) := by decide +kernel
theorem dX8_mergeRuns_176 : decode cX8_mergeRuns 176 = .ok (.istore 6, 2) := by decide +kernel
theorem dX8_mergeRuns_178 : decode cX8_mergeRuns 178 = .ok (.goto (-172), 3) := by decide +kernel
theorem dX8_mergeRuns_181 : decode cX8_mergeRuns 181 = .ok (.aload_n 0, 1) := by decide +kernel
theorem dX8_mergeRuns_182 : decode cX8_mergeRuns 182 = .ok (.getfield 23, 3) := by decide +kernel
theorem dX8_mergeRuns_185 : decode cX8_mergeRuns 185 = .ok (.astore 6, 2) := by decide +kernel
theorem dX8_mergeRuns_187 : decode cX8_mergeRuns 187 = .ok (.aload_n 0, 1) := by decide +kernel
theorem dX8_mergeRuns_188 : decode cX8_mergeRuns 188 = .ok (.aload_n 0, 1) := by decide +kernel
theorem dX8_mergeRuns_189 : decode cX8_mergeRuns 189 = .ok (.getfield 19, 3) := by decide +kernel
theorem dX8_mergeRuns_192 : decode cX8_mergeRuns 192 = .ok (.putfield 23, 3) := by decide +kernel
theorem dX8_mergeRuns_195 : decode cX8_mergeRuns 195 = .ok (.aload_n 0, 1) := by decide +kernel
theorem dX8_mergeRuns_196 : decode cX8_mergeRuns 196 = .ok (.aload 6, 2) := by decide +kernel
theorem dX8_mergeRuns_198 : decode cX8_mergeRuns 198 = .ok (.putfield 19, 3) := by decide +kernel
theorem dX8_mergeRuns_201 : decode cX8_mergeRuns 201 = .ok (.return_, 1) := by decide +kernel
def c_X8_mergeRuns_b170 (F : Nat) (rc6 : CS → Nat → Int32 → Int32 → Int32 → Int32 → Int32 → Int32 → Option CS) (cs1 : CS) (u0 : Nat) (u1 : Int32) (u2 : Int32) (u3 : Int32) (u4 : Int32) (u5 : Int32) (u6 : Int32) : Option CS := rc6 cs1 u0 u1 u2 u3 u4 u5 (u6 + (2 * u1))
def c_X8_mergeRuns_b161 (F : Nat) (rc6 : CS → Nat → Int32 → Int32 → Int32 → Int32 → Int32 → Int32 → Option CS) (rc42 : CS → Nat → Int32 → Int32 → Int32 → Int32 → Int32 → Int32 → Int32 → Int32 → Int32 → Int32 → Option CS) (cs1 : CS) (u0 : Nat) (u1 : Int32) (u2 : Int32) (u3 : Int32) (u4 : Int32) (u5 : Int32) (u6 : Int32) (u7 : Int32) (u8 : Int32) (u10 : Int32) (y0 : Int32) (y1 : Int32) : Option CS := rc42 cs1 u0 u1 u2 u3 u4 (u5 + 1) u6 u7 u8 (y1 + y0) u10
def c_X8_mergeRuns_b146 (F : Nat) (rc6 : CS → Nat → Int32 → Int32 → Int32 → Int32 → Int32 → Int32 → Option CS) (rc42 : CS → Nat → Int32 → Int32 → Int32 → Int32 → Int32 → Int32 → Int32 → Int32 → Int32 → Int32 → Option CS) (cs1 : CS) (u0 : Nat) (u1 : Int32) (u2 : Int32) (u3 : Int32) (u4 : Int32) (u5 : Int32) (u6 : Int32) (u7 : Int32) (u8 : Int32) (u9 : Int32) (u11 : Int32) (y0 : Int32) (y1 : Int32) : Option CS := if u11 = 0 then (c_X8_mergeRuns_b161 F rc6 rc42 cs1 u0 u1 u2 u3 u4 u5 u6 u7 u8 (y1 + y0) 1 u9) else (c_X8_mergeRuns_b161 F rc6 rc42 cs1 u0 u1 u2 u3 u4 u5 u6 u7 u8 (y1 + y0) 0 u9)
def c_X8_mergeRuns_b133 (F : Nat) (rc6 : CS → Nat → Int32 → Int32 → Int32 → Int32 → Int32 → Int32 → Option CS) (rc42 : CS → Nat → Int32 → Int32 → Int32 → Int32 → Int32 → Int32 → Int32 → Int32 → Int32 → Int32 → Option CS) (cs1 : CS) (u0 : Nat) (u1 : Int32) (u2 : Int32) (u3 : Int32) (u4 : Int32) (u5 : Int32) (u6 : Int32) (u7 : Int32) (u8 : Int32) (u9 : Int32) (u10 : Int32) (u11 : Int32) (y0 : Int32) (y1 : Int32) (y2 : Nat) (wy2 : Nat) : Option CS := Option.bind (wA cs1 291 y2 wy2 y1 y0) fun cs_2 => if u11 = 0 then (c_X8_mergeRuns_b146 F rc6 rc42 cs_2 u0 u1 u2 u3 u4 u5 u6 u7 u8 u9 u11 0 u10) else (c_X8_mergeRuns_b146 F rc6 rc42 cs_2 u0 u1 u2 u3 u4 u5 u6 u7 u8 u9 u11 1 u10)
def c_X8_mergeRuns_b103 (F : Nat) (rc6 : CS → Nat → Int32 → Int32 → Int32 → Int32 → Int32 → Int32 → Option CS) (rc42 : CS → Nat → Int32 → Int32 → Int32 → Int32 → Int32 → Int32 → Int32 → Int32 → Int32 → Int32 → Option CS) (cs1 : CS) (u0 : Nat) (u1 : Int32) (u2 : Int32) (u3 : Int32) (u4 : Int32) (u5 : Int32) (u6 : Int32) (u7 : Int32) (u8 : Int32) (u9 : Int32) (u10 : Int32) (y0 : Int32) : Option CS := Option.bind (gA cs1 9 291 u0) fun v_4 => if y0 = 0 then (Option.bind (gA cs1 9 290 u0) fun v_6 => Option.bind (rA cs1 290 u0 v_6 u9) fun v_7 => c_X8_mergeRuns_b133 F rc6 rc42 cs1 u0 u1 u2 u3 u4 u5 u6 u7 u8 u9 u10 y0 v_7 u5 u0 v_4) else (Option.bind (gA cs1 9 290 u0) fun v_8 => Option.bind (rA cs1 290 u0 v_8 u10) fun v_9 => c_X8_mergeRuns_b133 F rc6 rc42 cs1 u0 u1 u2 u3 u4 u5 u6 u7 u8 u9 u10 y0 v_9 u5 u0 v_4)
def c_X8_mergeRuns_b98 (F : Nat) (rc6 : CS → Nat → Int32 → Int32 → Int32 → Int32 → Int32 → Int32 → Option CS) (rc42 : CS → Nat → Int32 → Int32 → Int32 → Int32 → Int32 → Int32 → Int32 → Int32 → Int32 → Int32 → Option CS) (cs1 : CS) (u0 : Nat) (u1 : Int32) (u2 : Int32) (u3 : Int32) (u4 : Int32) (u5 : Int32) (u6 : Int32) (u7 : Int32) (u8 : Int32) (u9 : Int32) (u10 : Int32) : Option CS := c_X8_mergeRuns_b103 F rc6 rc42 cs1 u0 u1 u2 u3 u4 u5 u6 u7 u8 u9 u10 1
def c_X8_mergeRuns_b102 (F : Nat) (rc6 : CS → Nat → Int32 → Int32 → Int32 → Int32 → Int32 → Int32 → Option CS) (rc42 : CS → Nat → Int32 → Int32 → Int32 → Int32 → Int32 → Int32 → Int32 → Int32 → Int32 → Int32 → Option CS) (cs1 : CS) (u0 : Nat) (u1 : Int32) (u2 : Int32) (u3 : Int32) (u4 : Int32) (u5 : Int32) (u6 : Int32) (u7 : Int32) (u8 : Int32) (u9 : Int32) (u10 : Int32) : Option CS := c_X8_mergeRuns_b103 F rc6 rc42 cs1 u0 u1 u2 u3 u4 u5 u6 u7 u8 u9 u10 0
def c_X8_mergeRuns_L42 (F : Nat) (rc6 : CS → Nat → Int32 → Int32 → Int32 → Int32 → Int32 → Int32 → Option CS) : Nat → CS → Nat → Int32 → Int32 → Int32 → Int32 → Int32 → Int32 → Int32 → Int32 → Int32 → Int32 → Option CS
  | 0, _, _, _, _, _, _, _, _, _, _, _, _ => none
  | lf_42 + 1, cs1, u0, u1, u2, u3, u4, u5, u6, u7, u8, u9, u10 => if u8 ≤ u5 then (c_X8_mergeRuns_b170 F rc6 cs1 u0 u1 u2 u3 u4 u5 u6) else (Option.bind (gA cs1 9 291 u0) fun v_11 => Option.bind (lnA cs1 291 u0 v_11) fun v_12 => if v_12 ≤ u5 then (c_X8_mergeRuns_b170 F rc6 cs1 u0 u1 u2 u3 u4 u5 u6) else (if u7 ≤ u9 then (c_X8_mergeRuns_b98 F rc6 (c_X8_mergeRuns_L42 F rc6 lf_42) cs1 u0 u1 u2 u3 u4 u5 u6 u7 u8 u9 u10) else (if u8 ≤ u10 then (c_X8_mergeRuns_b102 F rc6 (c_X8_mergeRuns_L42 F rc6 lf_42) cs1 u0 u1 u2 u3 u4 u5 u6 u7 u8 u9 u10) else (Option.bind (gA cs1 9 290 u0) fun v_16 => Option.bind (rA cs1 290 u0 v_16 u10) fun v_17 => Option.bind (gA cs1 9 290 u0) fun v_18 => Option.bind (rA cs1 290 u0 v_18 u9) fun v_19 => Option.bind (ckE cs1 9 u0) fun _ => Option.bind (c_X8_compareRows F cs1 u0 v_17 u0 v_19 u3 u4) fun v_20 => if 0 ≤ v_20 then (c_X8_mergeRuns_b102 F rc6 (c_X8_mergeRuns_L42 F rc6 lf_42) cs1 u0 u1 u2 u3 u4 u5 u6 u7 u8 u9 u10) else (c_X8_mergeRuns_b98 F rc6 (c_X8_mergeRuns_L42 F rc6 lf_42) cs1 u0 u1 u2 u3 u4 u5 u6 u7 u8 u9 u10)))))
def c_X8_mergeRuns_L6 (F : Nat) : Nat → CS → Nat → Int32 → Int32 → Int32 → Int32 → Int32 → Int32 → Option CS
  | 0, _, _, _, _, _, _, _, _ => none
  | lf_6 + 1, cs1, u0, u1, u2, u3, u4, u5, u6 => if u2 ≤ u6 then (Option.bind (gA cs1 9 291 u0) fun v_24 => Option.bind (swp cs1 u0 v_24) fun cs_25 => some cs_25) else (c_X8_mergeRuns_L42 F (c_X8_mergeRuns_L6 F lf_6) F cs1 u0 u1 u2 u3 u4 u5 u6 (if u2 < (u6 + u1) then u2 else u6 + u1) (if u2 < (u6 + (2 * u1)) then u2 else u6 + (2 * u1)) u6 (if u2 < (u6 + u1) then u2 else u6 + u1))
def c_X8_mergeRuns (F : Nat) (cs : CS) (x0 : Nat) (x1 : Int32) (x2 : Int32) (x3 : Int32) (x4 : Int32) : Option CS := c_X8_mergeRuns_L6 F F cs x0 x1 x2 x3 x4 0 0
theorem cw_X8_X8_mergeRuns {R : Room} {s : State} {args : Array Value} {y0 : MethodName} {c0 : ByteArray} {n0 : Nat} {r0 : Option FieldType} (hts : ∀ w ∈ wsOf y0 c0 n0 r0, w.before args s = true) {fr : Nat} (h1 : fr + 1 ≤ R.frames) (h2 : 8 + (12 + 11) + 60 * fr ≤ R.locals) : CallW R s args RX8 RX8 69 yX8_mergeRuns cX8_mergeRuns 12 none (wsOf yX8_mergeRuns cX8_mergeRuns 12 none) ({ frames := fr, cells := 0, slots := 0, locals := 60 * fr } : Room) 0 0 4 := cwV 4 hts (gd_all (in_V kw_1492 kw_1494 kw_83 kw_188 kc_X8_mergeRuns)) rfl rfl rfl (by decide +kernel) ⟨h1, h2⟩
set_option maxHeartbeats 4000000 in
set_option maxRecDepth 100000 in
theorem sc_X8_mergeRuns (l : Launch) (dC : Nat → ClassId) (dI : Nat → Nat → Nat) (cB cI cJ cZ cS cO : ClassId) (b : Nat) (K V : Nat → Nat) (fz : Value) (F : Nat) (cs : CS) (x0 : Nat) (x1 : Int32) (x2 : Int32) (x3 : Int32) (x4 : Int32) (cs9 : CS) (hf : c_X8_mergeRuns F cs x0 x1 x2 x3 x4 = some cs9) : ocV l dC dI cB cI cJ cZ cS cO b K V fz yX8_mergeRuns (wsOf yX8_mergeRuns cX8_mergeRuns 12 none) (2) [.ref (b + x0), .int x1, .int x2, .int x3, .int x4] cs cs9 := by
  intro sz
  refine Met.ofW (cc := cX8_mergeRuns) (maxL := 12) (ret := none) (by decide) rfl ?_
  intro p e s m args below meth c s₁ B hml hv
  obtain ⟨rfl, hsz, hP, hK, hD0, hZ⟩ := hv
  have hx := B.exec
  have hb := B.bytes
  have hr := B.returns
  have hts := atoms_spec (ws := (wsOf yX8_mergeRuns cX8_mergeRuns 12 none)) B.pre
  have hown : s.vm.findClass RX8 = some m.cls := findClass_of_methodNamed B.named
  have hlocks := B.notSynchronized
  subst hsz
  have hD := hD0.self (sz := s.heap.size)
  generalize hAe : va_A (cW cB cI cJ cZ cS cO b cs) s.heap.size = A at hD hZ ⊢
  have hA : ∀ q : Nat, s.heap.size ≤ q → A q := fun q h => by rw [← hAe]; exact Or.inr h
  have hS : va_S A s.heap s.heap [] := va_S.rf
  have hl := lv_entry ([.ref (b + x0), .int x1, .int x2, .int x3, .int x4]) (n := 12) (Nat.le_of_ble_eq_true rfl)
  rw [lg_entry_eq]
  generalize (lg_sl ([.ref (b + x0), .int x1, .int x2, .int x3, .int x4]) ++ List.replicate (12 - (lg_sl ([.ref (b + x0), .int x1, .int x2, .int x3, .int x4])).length) Slot.unset).toArray = ls at hl ⊢
  have hl : lv_has ls 12 [(0, .ref (b + x0)), (1, .int x1), (2, .int x2), (3, .int x3), (4, .int x4)] := hl
  have L_6 : ∀ (lf_6 : Nat), ∀ (cs1 : CS) (u0 : Nat) (u1 : Int32) (u2 : Int32) (u3 : Int32) (u4 : Int32) (u5 : Int32) (u6 : Int32), c_X8_mergeRuns_L6 F lf_6 cs1 u0 u1 u2 u3 u4 u5 u6 = some cs9 → ∀ (H : Heap) (locs : List Loc) (ls : Array Slot), va_P (dC, dI) vwCl (cW cB cI cJ cZ cS cO b cs1) H → va_D A (cW cB cI cJ cZ cS cO b cs1) → va_S A s.heap H locs → lv_has ls 12 [(0, .ref (b + u0)), (1, .int u1), (2, .int u2), (3, .int u3), (4, .int u4), (5, .int u5), (6, .int u6)] → W p l e (headSpec (wsOf yX8_mergeRuns cX8_mergeRuns 12 none) ({ frames := 2, cells := 0, slots := 0, locals := 60 * (2) } : Room)).room s m ([.ref (b + x0), .int x1, .int x2, .int x3, .int x4] : List Value).toArray below meth c H locs 0 0 (MQ below (va_Qv (fun (_ : Unit) => True) (fun _ t_ => va_P (dC, dI) vwCl (cW cB cI cJ cZ cS cO b cs9) t_.heap ∧ va_D A (cW cB cI cJ cZ cS cO b cs9)) A) ([.ref (b + x0), .int x1, .int x2, .int x3, .int x4] : List Value).toArray s 0 0 A) (F0 m 6 ls []) := by
    intro lf_6
    induction lf_6 with
    | zero => intro cs1 u0 u1 u2 u3 u4 u5 u6 h; cases (show (none : Option CS) = _ from h)
    | succ lf_6 ih_6 =>
      have B_170 : ∀ (cs1 : CS) (u0 : Nat) (u1 : Int32) (u2 : Int32) (u3 : Int32) (u4 : Int32) (u5 : Int32) (u6 : Int32), c_X8_mergeRuns_b170 F (c_X8_mergeRuns_L6 F lf_6) cs1 u0 u1 u2 u3 u4 u5 u6 = some cs9 → ∀ (H : Heap) (locs : List Loc) (ls : Array Slot), va_P (dC, dI) vwCl (cW cB cI cJ cZ cS cO b cs1) H → va_D A (cW cB cI cJ cZ cS cO b cs1) → va_S A s.heap H locs → lv_has ls 12 [(0, .ref (b + u0)), (1, .int u1), (2, .int u2), (3, .int u3), (4, .int u4), (5, .int u5), (6, .int u6)] → W p l e (headSpec (wsOf yX8_mergeRuns cX8_mergeRuns 12 none) ({ frames := 2, cells := 0, slots := 0, locals := 60 * (2) } : Room)).room s m ([.ref (b + x0), .int x1, .int x2, .int x3, .int x4] : List Value).toArray below meth c H locs 0 0 (MQ below (va_Qv (fun (_ : Unit) => True) (fun _ t_ => va_P (dC, dI) vwCl (cW cB cI cJ cZ cS cO b cs9) t_.heap ∧ va_D A (cW cB cI cJ cZ cS cO b cs9)) A) ([.ref (b + x0), .int x1, .int x2, .int x3, .int x4] : List Value).toArray s 0 0 A) (F0 m 170 ls []) := by
        intro cs1 u0 u1 u2 u3 u4 u5 u6 h H locs ls hP hD hS hl
        unfold c_X8_mergeRuns_b170 at h
        refine lv_iload hx hb dX8_mergeRuns_170 (lv_at hl 6 rfl) ?_
        refine lv_iconst (v := 2) hx hb dX8_mergeRuns_172 (by decide) ?_
        refine lv_iload_n hx hb dX8_mergeRuns_173 rfl (lv_at hl 1 rfl) ?_
        refine lv_imul hx hb dX8_mergeRuns_174 ?_
        refine lv_iadd hx hb dX8_mergeRuns_175 ?_
        refine lv_istore (lv' := [(6, .int (u6 + (2 * u1))), (0, .ref (b + u0)), (1, .int u1), (2, .int u2), (3, .int u3), (4, .int u4), (5, .int u5)]) hx hb dX8_mergeRuns_176 hl (by decide) rfl (fun ls hl => ?_)
        refine lv_goto (tgt := 6) hx hb dX8_mergeRuns_178 (by decide) ?_
        exact ih_6 cs1 u0 u1 u2 u3 u4 u5 (u6 + (2 * u1)) h _ _ _ hP hD hS (lv_sub hl [1, 2, 3, 4, 5, 6, 0] rfl)
      have L_42 : ∀ (lf_42 : Nat), ∀ (cs1 : CS) (u0 : Nat) (u1 : Int32) (u2 : Int32) (u3 : Int32) (u4 : Int32) (u5 : Int32) (u6 : Int32) (u7 : Int32) (u8 : Int32) (u9 : Int32) (u10 : Int32), c_X8_mergeRuns_L42 F (c_X8_mergeRuns_L6 F lf_6) lf_42 cs1 u0 u1 u2 u3 u4 u5 u6 u7 u8 u9 u10 = some cs9 → ∀ (H : Heap) (locs : List Loc) (ls : Array Slot), va_P (dC, dI) vwCl (cW cB cI cJ cZ cS cO b cs1) H → va_D A (cW cB cI cJ cZ cS cO b cs1) → va_S A s.heap H locs → lv_has ls 12 [(0, .ref (b + u0)), (1, .int u1), (2, .int u2), (3, .int u3), (4, .int u4), (5, .int u5), (6, .int u6), (7, .int u7), (8, .int u8), (9, .int u9), (10, .int u10)] → W p l e (headSpec (wsOf yX8_mergeRuns cX8_mergeRuns 12 none) ({ frames := 2, cells := 0, slots := 0, locals := 60 * (2) } : Room)).room s m ([.ref (b + x0), .int x1, .int x2, .int x3, .int x4] : List Value).toArray below meth c H locs 0 0 (MQ below (va_Qv (fun (_ : Unit) => True) (fun _ t_ => va_P (dC, dI) vwCl (cW cB cI cJ cZ cS cO b cs9) t_.heap ∧ va_D A (cW cB cI cJ cZ cS cO b cs9)) A) ([.ref (b + x0), .int x1, .int x2, .int x3, .int x4] : List Value).toArray s 0 0 A) (F0 m 42 ls []) := by
        intro lf_42
        induction lf_42 with
        | zero => intro cs1 u0 u1 u2 u3 u4 u5 u6 u7 u8 u9 u10 h; cases (show (none : Option CS) = _ from h)
        | succ lf_42 ih_42 =>
          have B_161 : ∀ (cs1 : CS) (u0 : Nat) (u1 : Int32) (u2 : Int32) (u3 : Int32) (u4 : Int32) (u5 : Int32) (u6 : Int32) (u7 : Int32) (u8 : Int32) (u10 : Int32) (y0 : Int32) (y1 : Int32), c_X8_mergeRuns_b161 F (c_X8_mergeRuns_L6 F lf_6) (c_X8_mergeRuns_L42 F (c_X8_mergeRuns_L6 F lf_6) lf_42) cs1 u0 u1 u2 u3 u4 u5 u6 u7 u8 u10 y0 y1 = some cs9 → ∀ (H : Heap) (locs : List Loc) (ls : Array Slot), va_P (dC, dI) vwCl (cW cB cI cJ cZ cS cO b cs1) H → va_D A (cW cB cI cJ cZ cS cO b cs1) → va_S A s.heap H locs → lv_has ls 12 [(0, .ref (b + u0)), (1, .int u1), (2, .int u2), (3, .int u3), (4, .int u4), (5, .int u5), (6, .int u6), (7, .int u7), (8, .int u8), (10, .int u10)] → W p l e (headSpec (wsOf yX8_mergeRuns cX8_mergeRuns 12 none) ({ frames := 2, cells := 0, slots := 0, locals := 60 * (2) } : Room)).room s m ([.ref (b + x0), .int x1, .int x2, .int x3, .int x4] : List Value).toArray below meth c H locs 0 0 (MQ below (va_Qv (fun (_ : Unit) => True) (fun _ t_ => va_P (dC, dI) vwCl (cW cB cI cJ cZ cS cO b cs9) t_.heap ∧ va_D A (cW cB cI cJ cZ cS cO b cs9)) A) ([.ref (b + x0), .int x1, .int x2, .int x3, .int x4] : List Value).toArray s 0 0 A) (F0 m 161 ls [.int y0, .int y1]) := by
            intro cs1 u0 u1 u2 u3 u4 u5 u6 u7 u8 u10 y0 y1 h H locs ls hP hD hS hl
            unfold c_X8_mergeRuns_b161 at h
            refine lv_iadd hx hb dX8_mergeRuns_161 ?_
            refine lv_istore (lv' := [(9, .int (y1 + y0)), (0, .ref (b + u0)), (1, .int u1), (2, .int u2), (3, .int u3), (4, .int u4), (5, .int u5), (6, .int u6), (7, .int u7), (8, .int u8), (10, .int u10)]) hx hb dX8_mergeRuns_162 hl (by decide) rfl (fun ls hl => ?_)
            refine lv_iinc (v := u5 + 1) (lv' := [(5, .int (u5 + 1)), (9, .int (y1 + y0)), (0, .ref (b + u0)), (1, .int u1), (2, .int u2), (3, .int u3), (4, .int u4), (6, .int u6), (7, .int u7), (8, .int u8), (10, .int u10)]) hx hb dX8_mergeRuns_164 hl (k := 6) rfl rfl (by decide) rfl (fun ls hl => ?_)
            refine lv_goto (tgt := 42) hx hb dX8_mergeRuns_167 (by decide) ?_
            exact ih_42 cs1 u0 u1 u2 u3 u4 (u5 + 1) u6 u7 u8 (y1 + y0) u10 h _ _ _ hP hD hS (lv_sub hl [2, 3, 4, 5, 6, 0, 7, 8, 9, 1, 10] rfl)
          have B_146 : ∀ (cs1 : CS) (u0 : Nat) (u1 : Int32) (u2 : Int32) (u3 : Int32) (u4 : Int32) (u5 : Int32) (u6 : Int32) (u7 : Int32) (u8 : Int32) (u9 : Int32) (u11 : Int32) (y0 : Int32) (y1 : Int32), c_X8_mergeRuns_b146 F (c_X8_mergeRuns_L6 F lf_6) (c_X8_mergeRuns_L42 F (c_X8_mergeRuns_L6 F lf_6) lf_42) cs1 u0 u1 u2 u3 u4 u5 u6 u7 u8 u9 u11 y0 y1 = some cs9 → ∀ (H : Heap) (locs : List Loc) (ls : Array Slot), va_P (dC, dI) vwCl (cW cB cI cJ cZ cS cO b cs1) H → va_D A (cW cB cI cJ cZ cS cO b cs1) → va_S A s.heap H locs → lv_has ls 12 [(0, .ref (b + u0)), (1, .int u1), (2, .int u2), (3, .int u3), (4, .int u4), (5, .int u5), (6, .int u6), (7, .int u7), (8, .int u8), (9, .int u9), (11, .int u11)] → W p l e (headSpec (wsOf yX8_mergeRuns cX8_mergeRuns 12 none) ({ frames := 2, cells := 0, slots := 0, locals := 60 * (2) } : Room)).room s m ([.ref (b + x0), .int x1, .int x2, .int x3, .int x4] : List Value).toArray below meth c H locs 0 0 (MQ below (va_Qv (fun (_ : Unit) => True) (fun _ t_ => va_P (dC, dI) vwCl (cW cB cI cJ cZ cS cO b cs9) t_.heap ∧ va_D A (cW cB cI cJ cZ cS cO b cs9)) A) ([.ref (b + x0), .int x1, .int x2, .int x3, .int x4] : List Value).toArray s 0 0 A) (F0 m 146 ls [.int y0, .int y1]) := by
            intro cs1 u0 u1 u2 u3 u4 u5 u6 u7 u8 u9 u11 y0 y1 h H locs ls hP hD hS hl
            unfold c_X8_mergeRuns_b146 at h
            refine lv_iadd hx hb dX8_mergeRuns_146 ?_
            refine lv_istore (lv' := [(10, .int (y1 + y0)), (0, .ref (b + u0)), (1, .int u1), (2, .int u2), (3, .int u3), (4, .int u4), (5, .int u5), (6, .int u6), (7, .int u7), (8, .int u8), (9, .int u9), (11, .int u11)]) hx hb dX8_mergeRuns_147 hl (by decide) rfl (fun ls hl => ?_)
            refine lv_iload hx hb dX8_mergeRuns_149 (lv_at hl 10 rfl) ?_
            refine lv_iload hx hb dX8_mergeRuns_151 (lv_at hl 11 rfl) ?_
            refine lv_if_eq (tgt := 160) hx hb dX8_mergeRuns_153 (by decide) (fun c_1 => ?_) (fun c_1 => ?_)
            · skip
              replace h := (if_pos c_1).symm.trans h
              refine lv_iconst (v := 1) hx hb dX8_mergeRuns_160 (by decide) ?_
              exact B_161 cs1 u0 u1 u2 u3 u4 u5 u6 u7 u8 (y1 + y0) 1 u9 h _ _ _ hP hD hS (lv_sub hl [1, 2, 3, 4, 5, 6, 7, 8, 9, 0] rfl)
            · skip
              replace h := (if_neg c_1).symm.trans h
              refine lv_iconst (v := 0) hx hb dX8_mergeRuns_156 (by decide) ?_
              refine lv_goto (tgt := 161) hx hb dX8_mergeRuns_157 (by decide) ?_
              exact B_161 cs1 u0 u1 u2 u3 u4 u5 u6 u7 u8 (y1 + y0) 0 u9 h _ _ _ hP hD hS (lv_sub hl [1, 2, 3, 4, 5, 6, 7, 8, 9, 0] rfl)
          have B_133 : ∀ (cs1 : CS) (u0 : Nat) (u1 : Int32) (u2 : Int32) (u3 : Int32) (u4 : Int32) (u5 : Int32) (u6 : Int32) (u7 : Int32) (u8 : Int32) (u9 : Int32) (u10 : Int32) (u11 : Int32) (y0 : Int32) (y1 : Int32) (y2 : Nat) (wy2 : Nat), c_X8_mergeRuns_b133 F (c_X8_mergeRuns_L6 F lf_6) (c_X8_mergeRuns_L42 F (c_X8_mergeRuns_L6 F lf_6) lf_42) cs1 u0 u1 u2 u3 u4 u5 u6 u7 u8 u9 u10 u11 y0 y1 y2 wy2 = some cs9 → ∀ (H : Heap) (locs : List Loc) (ls : Array Slot), va_P (dC, dI) vwCl (cW cB cI cJ cZ cS cO b cs1) H → va_D A (cW cB cI cJ cZ cS cO b cs1) → va_S A s.heap H locs → lv_has ls 12 [(0, .ref (b + u0)), (1, .int u1), (2, .int u2), (3, .int u3), (4, .int u4), (5, .int u5), (6, .int u6), (7, .int u7), (8, .int u8), (9, .int u9), (10, .int u10), (11, .int u11)] → W p l e (headSpec (wsOf yX8_mergeRuns cX8_mergeRuns 12 none) ({ frames := 2, cells := 0, slots := 0, locals := 60 * (2) } : Room)).room s m ([.ref (b + x0), .int x1, .int x2, .int x3, .int x4] : List Value).toArray below meth c H locs 0 0 (MQ below (va_Qv (fun (_ : Unit) => True) (fun _ t_ => va_P (dC, dI) vwCl (cW cB cI cJ cZ cS cO b cs9) t_.heap ∧ va_D A (cW cB cI cJ cZ cS cO b cs9)) A) ([.ref (b + x0), .int x1, .int x2, .int x3, .int x4] : List Value).toArray s 0 0 A) (F0 m 133 ls [.int y0, .int y1, .ref (b + wy2)]) := by
            intro cs1 u0 u1 u2 u3 u4 u5 u6 u7 u8 u9 u10 u11 y0 y1 y2 wy2 h H locs ls hP hD hS hl
            unfold c_X8_mergeRuns_b133 at h
            replace h := ob h; obtain ⟨cs_2, hv_2, h⟩ := h
            refine ast0 hx hb hK hP hD hS rfl hv_2 dX8_mergeRuns_133 (fun H locs hP hD hS => ?_)
            refine lv_iload hx hb dX8_mergeRuns_134 (lv_at hl 10 rfl) ?_
            refine lv_iload hx hb dX8_mergeRuns_136 (lv_at hl 11 rfl) ?_
            refine lv_if_eq (tgt := 145) hx hb dX8_mergeRuns_138 (by decide) (fun c_3 => ?_) (fun c_3 => ?_)
            · skip
              replace h := (if_pos c_3).symm.trans h
              refine lv_iconst (v := 0) hx hb dX8_mergeRuns_145 (by decide) ?_
              exact B_146 cs_2 u0 u1 u2 u3 u4 u5 u6 u7 u8 u9 u11 0 u10 h _ _ _ hP hD hS (lv_sub hl [0, 1, 2, 3, 4, 5, 6, 7, 8, 9, 11] rfl)
            · skip
              replace h := (if_neg c_3).symm.trans h
              refine lv_iconst (v := 1) hx hb dX8_mergeRuns_141 (by decide) ?_
              refine lv_goto (tgt := 146) hx hb dX8_mergeRuns_142 (by decide) ?_
              exact B_146 cs_2 u0 u1 u2 u3 u4 u5 u6 u7 u8 u9 u11 1 u10 h _ _ _ hP hD hS (lv_sub hl [0, 1, 2, 3, 4, 5, 6, 7, 8, 9, 11] rfl)
          have B_103 : ∀ (cs1 : CS) (u0 : Nat) (u1 : Int32) (u2 : Int32) (u3 : Int32) (u4 : Int32) (u5 : Int32) (u6 : Int32) (u7 : Int32) (u8 : Int32) (u9 : Int32) (u10 : Int32) (y0 : Int32), c_X8_mergeRuns_b103 F (c_X8_mergeRuns_L6 F lf_6) (c_X8_mergeRuns_L42 F (c_X8_mergeRuns_L6 F lf_6) lf_42) cs1 u0 u1 u2 u3 u4 u5 u6 u7 u8 u9 u10 y0 = some cs9 → ∀ (H : Heap) (locs : List Loc) (ls : Array Slot), va_P (dC, dI) vwCl (cW cB cI cJ cZ cS cO b cs1) H → va_D A (cW cB cI cJ cZ cS cO b cs1) → va_S A s.heap H locs → lv_has ls 12 [(0, .ref (b + u0)), (1, .int u1), (2, .int u2), (3, .int u3), (4, .int u4), (5, .int u5), (6, .int u6), (7, .int u7), (8, .int u8), (9, .int u9), (10, .int u10)] → W p l e (headSpec (wsOf yX8_mergeRuns cX8_mergeRuns 12 none) ({ frames := 2, cells := 0, slots := 0, locals := 60 * (2) } : Room)).room s m ([.ref (b + x0), .int x1, .int x2, .int x3, .int x4] : List Value).toArray below meth c H locs 0 0 (MQ below (va_Qv (fun (_ : Unit) => True) (fun _ t_ => va_P (dC, dI) vwCl (cW cB cI cJ cZ cS cO b cs9) t_.heap ∧ va_D A (cW cB cI cJ cZ cS cO b cs9)) A) ([.ref (b + x0), .int x1, .int x2, .int x3, .int x4] : List Value).toArray s 0 0 A) (F0 m 103 ls [.int y0]) := by
            intro cs1 u0 u1 u2 u3 u4 u5 u6 u7 u8 u9 u10 y0 h H locs ls hP hD hS hl
            unfold c_X8_mergeRuns_b103 at h
            refine lv_istore (lv' := [(11, .int y0), (0, .ref (b + u0)), (1, .int u1), (2, .int u2), (3, .int u3), (4, .int u4), (5, .int u5), (6, .int u6), (7, .int u7), (8, .int u8), (9, .int u9), (10, .int u10)]) hx hb dX8_mergeRuns_103 hl (by decide) rfl (fun ls hl => ?_)
            refine lv_aload_n hx hb dX8_mergeRuns_105 rfl (lv_at hl 1 rfl) ?_
            replace h := ob h; obtain ⟨v_4, hv_4, h⟩ := h
            refine fg_X8_23 hx hb hts hown hK hP hv_4 dX8_mergeRuns_106 ?_
            refine lv_iload hx hb dX8_mergeRuns_109 (lv_at hl 6 rfl) ?_
            refine lv_iload hx hb dX8_mergeRuns_111 (lv_at hl 0 rfl) ?_
            refine lv_if_eq (tgt := 126) hx hb dX8_mergeRuns_113 (by decide) (fun c_5 => ?_) (fun c_5 => ?_)
            · skip
              replace h := (if_pos c_5).symm.trans h
              refine lv_aload_n hx hb dX8_mergeRuns_126 rfl (lv_at hl 1 rfl) ?_
              replace h := ob h; obtain ⟨v_6, hv_6, h⟩ := h
              refine fg_X8_19 hx hb hts hown hK hP hv_6 dX8_mergeRuns_127 ?_
              refine lv_iload hx hb dX8_mergeRuns_130 (lv_at hl 10 rfl) ?_
              replace h := ob h; obtain ⟨v_7, hv_7, h⟩ := h
              refine ald0 hx hb hK hP rfl hv_7 dX8_mergeRuns_132 ?_
              exact B_133 cs1 u0 u1 u2 u3 u4 u5 u6 u7 u8 u9 u10 y0 v_7 u5 u0 v_4 h _ _ _ hP hD hS (lv_sub hl [1, 2, 3, 4, 5, 6, 7, 8, 9, 10, 11, 0] rfl)
            · skip
              replace h := (if_neg c_5).symm.trans h
              refine lv_aload_n hx hb dX8_mergeRuns_116 rfl (lv_at hl 1 rfl) ?_
              replace h := ob h; obtain ⟨v_8, hv_8, h⟩ := h
              refine fg_X8_19 hx hb hts hown hK hP hv_8 dX8_mergeRuns_117 ?_
              refine lv_iload hx hb dX8_mergeRuns_120 (lv_at hl 11 rfl) ?_
              replace h := ob h; obtain ⟨v_9, hv_9, h⟩ := h
              refine ald0 hx hb hK hP rfl hv_9 dX8_mergeRuns_122 ?_
              refine lv_goto (tgt := 133) hx hb dX8_mergeRuns_123 (by decide) ?_
              exact B_133 cs1 u0 u1 u2 u3 u4 u5 u6 u7 u8 u9 u10 y0 v_9 u5 u0 v_4 h _ _ _ hP hD hS (lv_sub hl [1, 2, 3, 4, 5, 6, 7, 8, 9, 10, 11, 0] rfl)
          have B_98 : ∀ (cs1 : CS) (u0 : Nat) (u1 : Int32) (u2 : Int32) (u3 : Int32) (u4 : Int32) (u5 : Int32) (u6 : Int32) (u7 : Int32) (u8 : Int32) (u9 : Int32) (u10 : Int32), c_X8_mergeRuns_b98 F (c_X8_mergeRuns_L6 F lf_6) (c_X8_mergeRuns_L42 F (c_X8_mergeRuns_L6 F lf_6) lf_42) cs1 u0 u1 u2 u3 u4 u5 u6 u7 u8 u9 u10 = some cs9 → ∀ (H : Heap) (locs : List Loc) (ls : Array Slot), va_P (dC, dI) vwCl (cW cB cI cJ cZ cS cO b cs1) H → va_D A (cW cB cI cJ cZ cS cO b cs1) → va_S A s.heap H locs → lv_has ls 12 [(0, .ref (b + u0)), (1, .int u1), (2, .int u2), (3, .int u3), (4, .int u4), (5, .int u5), (6, .int u6), (7, .int u7), (8, .int u8), (9, .int u9), (10, .int u10)] → W p l e (headSpec (wsOf yX8_mergeRuns cX8_mergeRuns 12 none) ({ frames := 2, cells := 0, slots := 0, locals := 60 * (2) } : Room)).room s m ([.ref (b + x0), .int x1, .int x2, .int x3, .int x4] : List Value).toArray below meth c H locs 0 0 (MQ below (va_Qv (fun (_ : Unit) => True) (fun _ t_ => va_P (dC, dI) vwCl (cW cB cI cJ cZ cS cO b cs9) t_.heap ∧ va_D A (cW cB cI cJ cZ cS cO b cs9)) A) ([.ref (b + x0), .int x1, .int x2, .int x3, .int x4] : List Value).toArray s 0 0 A) (F0 m 98 ls []) := by
            intro cs1 u0 u1 u2 u3 u4 u5 u6 u7 u8 u9 u10 h H locs ls hP hD hS hl
            unfold c_X8_mergeRuns_b98 at h
            refine lv_iconst (v := 1) hx hb dX8_mergeRuns_98 (by decide) ?_
            refine lv_goto (tgt := 103) hx hb dX8_mergeRuns_99 (by decide) ?_
            exact B_103 cs1 u0 u1 u2 u3 u4 u5 u6 u7 u8 u9 u10 1 h _ _ _ hP hD hS (lv_sub hl [0, 1, 2, 3, 4, 5, 6, 7, 8, 9, 10] rfl)
          have B_102 : ∀ (cs1 : CS) (u0 : Nat) (u1 : Int32) (u2 : Int32) (u3 : Int32) (u4 : Int32) (u5 : Int32) (u6 : Int32) (u7 : Int32) (u8 : Int32) (u9 : Int32) (u10 : Int32), c_X8_mergeRuns_b102 F (c_X8_mergeRuns_L6 F lf_6) (c_X8_mergeRuns_L42 F (c_X8_mergeRuns_L6 F lf_6) lf_42) cs1 u0 u1 u2 u3 u4 u5 u6 u7 u8 u9 u10 = some cs9 → ∀ (H : Heap) (locs : List Loc) (ls : Array Slot), va_P (dC, dI) vwCl (cW cB cI cJ cZ cS cO b cs1) H → va_D A (cW cB cI cJ cZ cS cO b cs1) → va_S A s.heap H locs → lv_has ls 12 [(0, .ref (b + u0)), (1, .int u1), (2, .int u2), (3, .int u3), (4, .int u4), (5, .int u5), (6, .int u6), (7, .int u7), (8, .int u8), (9, .int u9), (10, .int u10)] → W p l e (headSpec (wsOf yX8_mergeRuns cX8_mergeRuns 12 none) ({ frames := 2, cells := 0, slots := 0, locals := 60 * (2) } : Room)).room s m ([.ref (b + x0), .int x1, .int x2, .int x3, .int x4] : List Value).toArray below meth c H locs 0 0 (MQ below (va_Qv (fun (_ : Unit) => True) (fun _ t_ => va_P (dC, dI) vwCl (cW cB cI cJ cZ cS cO b cs9) t_.heap ∧ va_D A (cW cB cI cJ cZ cS cO b cs9)) A) ([.ref (b + x0), .int x1, .int x2, .int x3, .int x4] : List Value).toArray s 0 0 A) (F0 m 102 ls []) := by
            intro cs1 u0 u1 u2 u3 u4 u5 u6 u7 u8 u9 u10 h H locs ls hP hD hS hl
            unfold c_X8_mergeRuns_b102 at h
            refine lv_iconst (v := 0) hx hb dX8_mergeRuns_102 (by decide) ?_
            exact B_103 cs1 u0 u1 u2 u3 u4 u5 u6 u7 u8 u9 u10 0 h _ _ _ hP hD hS (lv_sub hl [0, 1, 2, 3, 4, 5, 6, 7, 8, 9, 10] rfl)
          intro cs1 u0 u1 u2 u3 u4 u5 u6 u7 u8 u9 u10 h H locs ls hP hD hS hl
          rw [c_X8_mergeRuns_L42] at h
          refine lv_iload hx hb dX8_mergeRuns_42 (lv_at hl 5 rfl) ?_
          refine lv_iload hx hb dX8_mergeRuns_44 (lv_at hl 8 rfl) ?_
          refine lv_icmp_ge (tgt := 170) hx hb dX8_mergeRuns_46 (by decide) (fun c_10 => ?_) (fun c_10 => ?_)
          · skip
            replace h := (if_pos c_10).symm.trans h
            exact B_170 cs1 u0 u1 u2 u3 u4 u5 u6 h _ _ _ hP hD hS (lv_sub hl [0, 1, 2, 3, 4, 5, 6] rfl)
          · skip
            replace h := (if_neg c_10).symm.trans h
            refine lv_iload hx hb dX8_mergeRuns_49 (lv_at hl 5 rfl) ?_
            refine lv_aload_n hx hb dX8_mergeRuns_51 rfl (lv_at hl 0 rfl) ?_
            replace h := ob h; obtain ⟨v_11, hv_11, h⟩ := h
            refine fg_X8_23 hx hb hts hown hK hP hv_11 dX8_mergeRuns_52 ?_
            replace h := ob h; obtain ⟨v_12, hv_12, h⟩ := h
            refine alen0 hx hb hK hP rfl hv_12 dX8_mergeRuns_55 ?_
            refine lv_icmp_ge (tgt := 170) hx hb dX8_mergeRuns_56 (by decide) (fun c_13 => ?_) (fun c_13 => ?_)
            · skip
              replace h := (if_pos c_13).symm.trans h
              exact B_170 cs1 u0 u1 u2 u3 u4 u5 u6 h _ _ _ hP hD hS (lv_sub hl [0, 1, 2, 3, 4, 5, 6] rfl)
            · skip
              replace h := (if_neg c_13).symm.trans h
              refine lv_iload hx hb dX8_mergeRuns_59 (lv_at hl 9 rfl) ?_
              refine lv_iload hx hb dX8_mergeRuns_61 (lv_at hl 7 rfl) ?_
              refine lv_icmp_ge (tgt := 98) hx hb dX8_mergeRuns_63 (by decide) (fun c_14 => ?_) (fun c_14 => ?_)
              · skip
                replace h := (if_pos c_14).symm.trans h
                exact B_98 cs1 u0 u1 u2 u3 u4 u5 u6 u7 u8 u9 u10 h _ _ _ hP hD hS (lv_sub hl [0, 1, 2, 3, 4, 5, 6, 7, 8, 9, 10] rfl)
              · skip
                replace h := (if_neg c_14).symm.trans h
                refine lv_iload hx hb dX8_mergeRuns_66 (lv_at hl 10 rfl) ?_
                refine lv_iload hx hb dX8_mergeRuns_68 (lv_at hl 8 rfl) ?_
                refine lv_icmp_ge (tgt := 102) hx hb dX8_mergeRuns_70 (by decide) (fun c_15 => ?_) (fun c_15 => ?_)
                · skip
                  replace h := (if_pos c_15).symm.trans h
                  exact B_102 cs1 u0 u1 u2 u3 u4 u5 u6 u7 u8 u9 u10 h _ _ _ hP hD hS (lv_sub hl [0, 1, 2, 3, 4, 5, 6, 7, 8, 9, 10] rfl)
                · skip
                  replace h := (if_neg c_15).symm.trans h
                  refine lv_aload_n hx hb dX8_mergeRuns_73 rfl (lv_at hl 0 rfl) ?_
                  refine lv_aload_n hx hb dX8_mergeRuns_74 rfl (lv_at hl 0 rfl) ?_
                  replace h := ob h; obtain ⟨v_16, hv_16, h⟩ := h
                  refine fg_X8_19 hx hb hts hown hK hP hv_16 dX8_mergeRuns_75 ?_
                  refine lv_iload hx hb dX8_mergeRuns_78 (lv_at hl 10 rfl) ?_
                  replace h := ob h; obtain ⟨v_17, hv_17, h⟩ := h
                  refine ald0 hx hb hK hP rfl hv_17 dX8_mergeRuns_80 ?_
                  refine lv_aload_n hx hb dX8_mergeRuns_81 rfl (lv_at hl 0 rfl) ?_
                  refine lv_aload_n hx hb dX8_mergeRuns_82 rfl (lv_at hl 0 rfl) ?_
                  replace h := ob h; obtain ⟨v_18, hv_18, h⟩ := h
                  refine fg_X8_19 hx hb hts hown hK hP hv_18 dX8_mergeRuns_83 ?_
                  refine lv_iload hx hb dX8_mergeRuns_86 (lv_at hl 9 rfl) ?_
                  replace h := ob h; obtain ⟨v_19, hv_19, h⟩ := h
                  refine ald0 hx hb hK hP rfl hv_19 dX8_mergeRuns_88 ?_
                  refine lv_iload_n hx hb dX8_mergeRuns_89 rfl (lv_at hl 3 rfl) ?_
                  refine lv_iload hx hb dX8_mergeRuns_90 (lv_at hl 4 rfl) ?_
                  replace h := ob h; obtain ⟨w_21, hw_21, h⟩ := h
                  replace h := ob h; obtain ⟨v_20, hv_20, h⟩ := h
                  refine ccI (As := [.int v_17, .ref (b + u0), .int v_19, .int u3, .int u4]) hx hb hml hts hown hK hP hD hS hA hZ (X := 9) (by decide) rfl (ckE_some hw_21) (sc_X8_compareRows l dC dI cB cI cJ cZ cS cO b K V fz F cs1 u0 v_17 u0 v_19 u3 u4 v_20 hv_20) (cw_X8_X8_compareRows hts (fr := 1) (Nat.le_of_ble_eq_true rfl) (Nat.le_of_ble_eq_true rfl)) rfl hl.1 (Nat.le_of_ble_eq_true rfl) ⟨Nat.zero_le _, Nat.zero_le _⟩ dX8_mergeRuns_92 (fun H locs hP hD hS => ?_)
                  refine lv_if_ge (tgt := 102) hx hb dX8_mergeRuns_95 (by decide) (fun c_22 => ?_) (fun c_22 => ?_)
                  · skip
                    replace h := (if_pos c_22).symm.trans h
                    exact B_102 cs1 u0 u1 u2 u3 u4 u5 u6 u7 u8 u9 u10 h _ _ _ hP hD hS (lv_sub hl [0, 1, 2, 3, 4, 5, 6, 7, 8, 9, 10] rfl)
                  · skip
                    replace h := (if_neg c_22).symm.trans h
                    exact B_98 cs1 u0 u1 u2 u3 u4 u5 u6 u7 u8 u9 u10 h _ _ _ hP hD hS (lv_sub hl [0, 1, 2, 3, 4, 5, 6, 7, 8, 9, 10] rfl)
      intro cs1 u0 u1 u2 u3 u4 u5 u6 h H locs ls hP hD hS hl
      rw [c_X8_mergeRuns_L6] at h
      refine lv_iload hx hb dX8_mergeRuns_6 (lv_at hl 6 rfl) ?_
      refine lv_iload_n hx hb dX8_mergeRuns_8 rfl (lv_at hl 2 rfl) ?_
      refine lv_icmp_ge (tgt := 181) hx hb dX8_mergeRuns_9 (by decide) (fun c_23 => ?_) (fun c_23 => ?_)
      · skip
        replace h := (if_pos c_23).symm.trans h
        refine lv_aload_n hx hb dX8_mergeRuns_181 rfl (lv_at hl 0 rfl) ?_
        replace h := ob h; obtain ⟨v_24, hv_24, h⟩ := h
        refine fg_X8_23 hx hb hts hown hK hP hv_24 dX8_mergeRuns_182 ?_
        refine lv_astore (lv' := [(6, .ref (b + v_24)), (0, .ref (b + u0)), (1, .int u1), (2, .int u2), (3, .int u3), (4, .int u4), (5, .int u5)]) hx hb dX8_mergeRuns_185 hl (by decide) rfl (fun ls hl => ?_)
        replace h := ob h; obtain ⟨cs_25, hv_25, h⟩ := h
        refine swapRow (p0 := 1) (p6 := 0) hx hb hts hown hK hP hD hS hl rfl rfl hv_25 dX8_mergeRuns_187 dX8_mergeRuns_188 dX8_mergeRuns_189 dX8_mergeRuns_192 dX8_mergeRuns_195 dX8_mergeRuns_196 dX8_mergeRuns_198 (fun H locs hP hD hS => ?_)
        have e1 := Option.some.inj h
        rw [e1] at hP hD
        exact W.vret hx hb hr (fun t_ ht hW => ⟨⟨(), rfl, trivial, by rw [ht]; exact hP, hD⟩, hS.F ht⟩) hS.2.2 dX8_mergeRuns_201
      · skip
        replace h := (if_neg c_23).symm.trans h
        refine lv_iload hx hb dX8_mergeRuns_12 (lv_at hl 6 rfl) ?_
        refine lv_iload_n hx hb dX8_mergeRuns_14 rfl (lv_at hl 1 rfl) ?_
        refine lv_iadd hx hb dX8_mergeRuns_15 ?_
        refine lv_iload_n hx hb dX8_mergeRuns_16 rfl (lv_at hl 2 rfl) ?_
        refine va_mmin (x := u6 + u1) (y := u2) hx hb (hml.trans hl.1.symm) hown (hts _ (List.mem_cons_of_mem _ kw_1496)) (hts _ (List.mem_cons_of_mem _ kw_506)) (hts _ (List.mem_cons_of_mem _ kw_190)) (hts _ (List.mem_cons_of_mem _ kc_min)) (Nat.le_of_ble_eq_true rfl) (Nat.le_of_ble_eq_true rfl) (Nat.zero_le _) (Nat.zero_le _) dX8_mergeRuns_17 ?_
        refine lv_istore (lv' := [(7, .int (if u2 < (u6 + u1) then u2 else u6 + u1)), (0, .ref (b + u0)), (1, .int u1), (2, .int u2), (3, .int u3), (4, .int u4), (5, .int u5), (6, .int u6)]) hx hb dX8_mergeRuns_20 hl (by decide) rfl (fun ls hl => ?_)
        refine lv_iload hx hb dX8_mergeRuns_22 (lv_at hl 7 rfl) ?_
        refine lv_iconst (v := 2) hx hb dX8_mergeRuns_24 (by decide) ?_
        refine lv_iload_n hx hb dX8_mergeRuns_25 rfl (lv_at hl 2 rfl) ?_
        refine lv_imul hx hb dX8_mergeRuns_26 ?_
        refine lv_iadd hx hb dX8_mergeRuns_27 ?_
        refine lv_iload_n hx hb dX8_mergeRuns_28 rfl (lv_at hl 3 rfl) ?_
        refine va_mmin (x := u6 + (2 * u1)) (y := u2) hx hb (hml.trans hl.1.symm) hown (hts _ (List.mem_cons_of_mem _ kw_1496)) (hts _ (List.mem_cons_of_mem _ kw_506)) (hts _ (List.mem_cons_of_mem _ kw_190)) (hts _ (List.mem_cons_of_mem _ kc_min)) (Nat.le_of_ble_eq_true rfl) (Nat.le_of_ble_eq_true rfl) (Nat.zero_le _) (Nat.zero_le _) dX8_mergeRuns_29 ?_
        refine lv_istore (lv' := [(8, .int (if u2 < (u6 + (2 * u1)) then u2 else u6 + (2 * u1))), (7, .int (if u2 < (u6 + u1) then u2 else u6 + u1)), (0, .ref (b + u0)), (1, .int u1), (2, .int u2), (3, .int u3), (4, .int u4), (5, .int u5), (6, .int u6)]) hx hb dX8_mergeRuns_32 hl (by decide) rfl (fun ls hl => ?_)
        refine lv_iload hx hb dX8_mergeRuns_34 (lv_at hl 8 rfl) ?_
        refine lv_istore (lv' := [(9, .int u6), (8, .int (if u2 < (u6 + (2 * u1)) then u2 else u6 + (2 * u1))), (7, .int (if u2 < (u6 + u1) then u2 else u6 + u1)), (0, .ref (b + u0)), (1, .int u1), (2, .int u2), (3, .int u3), (4, .int u4), (5, .int u5), (6, .int u6)]) hx hb dX8_mergeRuns_36 hl (by decide) rfl (fun ls hl => ?_)
        refine lv_iload hx hb dX8_mergeRuns_38 (lv_at hl 2 rfl) ?_
        refine lv_istore (lv' := [(10, .int (if u2 < (u6 + u1) then u2 else u6 + u1)), (9, .int u6), (8, .int (if u2 < (u6 + (2 * u1)) then u2 else u6 + (2 * u1))), (7, .int (if u2 < (u6 + u1) then u2 else u6 + u1)), (0, .ref (b + u0)), (1, .int u1), (2, .int u2), (3, .int u3), (4, .int u4), (5, .int u5), (6, .int u6)]) hx hb dX8_mergeRuns_40 hl (by decide) rfl (fun ls hl => ?_)
        exact L_42 F cs1 u0 u1 u2 u3 u4 u5 u6 (if u2 < (u6 + u1) then u2 else u6 + u1) (if u2 < (u6 + (2 * u1)) then u2 else u6 + (2 * u1)) u6 (if u2 < (u6 + u1) then u2 else u6 + u1) h _ _ _ hP hD hS (lv_sub hl [4, 5, 6, 7, 8, 9, 10, 3, 2, 1, 0] rfl)
  have h := hf
  unfold c_X8_mergeRuns at h
  refine lv_iconst (v := 0) hx hb dX8_mergeRuns_0 (by decide) ?_
  refine lv_istore (lv' := [(5, .int 0), (0, .ref (b + x0)), (1, .int x1), (2, .int x2), (3, .int x3), (4, .int x4)]) hx hb dX8_mergeRuns_1 hl (by decide) rfl (fun ls hl => ?_)
  refine lv_iconst (v := 0) hx hb dX8_mergeRuns_3 (by decide) ?_
  refine lv_istore (lv' := [(6, .int 0), (5, .int 0), (0, .ref (b + x0)), (1, .int x1), (2, .int x2), (3, .int x3), (4, .int x4)]) hx hb dX8_mergeRuns_4 hl (by decide) rfl (fun ls hl => ?_)
  exact L_6 F cs x0 x1 x2 x3 x4 0 0 h _ _ _ hP hD hS (lv_sub hl [2, 3, 4, 5, 6, 1, 0] rfl)
