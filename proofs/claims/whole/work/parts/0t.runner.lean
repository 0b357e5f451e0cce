/-! the class, mirrored: what makes cells -/
theorem dX4_join_0 : decode cX4_join 0 = .ok (.aload_n 1, 1) := by decide +kernel
theorem dX4_join_1 : decode cX4_join 1 = .ok (.getfield 178, 3) := by decide +kernel
theorem dX4_join_4 : decode cX4_join 4 = .ok (.istore 5, 2) := by decide +kernel
theorem dX4_join_6 : decode cX4_join 6 = .ok (.aload_n 1, 1) := by decide +kernel
theorem dX4_join_7 : decode cX4_join 7 = .ok (.getfield 212, 3) := by decide +kernel
theorem dX4_join_10 : decode cX4_join 10 = .ok (.getfield 29, 3) := by decide +kernel
theorem dX4_join_13 : decode cX4_join 13 = .ok (.istore 6, 2) := by decide +kernel
theorem dX4_join_15 : decode cX4_join 15 = .ok (.iload 5, 2) := by decide +kernel
theorem dX4_join_17 : decode cX4_join 17 = .ok (.iload 6, 2) := by decide +kernel
theorem dX4_join_19 : decode cX4_join 19 = .ok (.iadd, 1) := by decide +kernel
theorem dX4_join_20 : decode cX4_join 20 = .ok (.istore 7, 2) := by decide +kernel
theorem dX4_join_22 : decode cX4_join 22 = .ok (.iload_n 2, 1) := by decide +kernel
theorem dX4_join_23 : decode cX4_join 23 = .ok (.iload_n 3, 1) := by decide +kernel
theorem dX4_join_24 : decode cX4_join 24 = .ok (.iload 5, 2) := by decide +kernel
theorem dX4_join_26 : decode cX4_join 26 = .ok (.imul, 1) := by decide +kernel
theorem dX4_join_27 : decode cX4_join 27 = .ok (.iadd, 1) := by decide +kernel
theorem dX4_join_28 : decode cX4_join 28 = .ok (.istore 8, 2) := by decide +kernel
theorem dX4_join_30 : decode cX4_join 30 = .ok (.iload 8, 2) := by decide +kernel
theorem dX4_join_32 : decode cX4_join 32 = .ok (.iload 4, 2) := by decide +kernel
theorem dX4_join_34 : decode cX4_join 34 = .ok (.iload 6, 2) := by decide +kernel
theorem dX4_join_36 : decode cX4_join 36 = .ok (.imul, 1) := by decide +kernel
theorem dX4_join_37 : decode cX4_join 37 = .ok (.iadd, 1) := by decide +kernel
theorem dX4_join_38 : decode cX4_join 38 = .ok (.istore 9, 2) := by decide +kernel
theorem dX4_join_40 : decode cX4_join 40 = .ok (.iconst 0, 1) := by decide +kernel
theorem dX4_join_41 : decode cX4_join 41 = .ok (.istore 10, 2) := by decide +kernel
theorem dX4_join_43 : decode cX4_join 43 = .ok (.iconst 0, 1) := by decide +kernel
theorem dX4_join_44 : decode cX4_join 44 = .ok (.istore 11, 2) := by decide +kernel
theorem dX4_join_46 : decode cX4_join 46 = .ok (.iload 11, 2) := by decide +kernel
theorem dX4_join_48 : decode cX4_join 48 = .ok (.iload_n 3, 1) := by decide +kernel
theorem dX4_join_49 : decode cX4_join 49 = .ok (.if_icmp .ge 165, 3) := by decide +kernel
theorem dX4_join_52 : decode cX4_join 52 = .ok (.iload 10, 2) := by decide +kernel
theorem dX4_join_54 : decode cX4_join 54 = .ok (.istore 12, 2) := by decide +kernel
theorem dX4_join_56 : decode cX4_join 56 = .ok (.iconst 0, 1) := by decide +kernel
theorem dX4_join_57 : decode cX4_join 57 = .ok (.istore 13, 2) := by decide +kernel
theorem dX4_join_59 : decode cX4_join 59 = .ok (.iload 13, 2) := by decide +kernel
theorem dX4_join_61 : decode cX4_join 61 = .ok (.iload 4, 2) := by decide +kernel
theorem dX4_join_63 : decode cX4_join 63 = .ok (.if_icmp .ge 89, 3) := by decide +kernel
theorem dX4_join_66 : decode cX4_join 66 = .ok (.iload 9, 2) := by decide +kernel
theorem dX4_join_68 : decode cX4_join 68 = .ok (.iload 10, 2) := by decide +kernel
theorem dX4_join_70 : decode cX4_join 70 = .ok (.iload 7, 2) := by decide +kernel
theorem dX4_join_72 : decode cX4_join 72 = .ok (.imul, 1) := by decide +kernel
theorem dX4_join_73 : decode cX4_join 73 = .ok (.iadd, 1) := by decide +kernel
theorem dX4_join_74 : decode cX4_join 74 = .ok (.istore 14, 2) := by decide +kernel
theorem dX4_join_76 : decode cX4_join 76 = .ok (.aload_n 0, 1) := by decide +kernel
theorem dX4_join_77 : decode cX4_join 77 = .ok (.getfield 19, 3) := by decide +kernel
theorem dX4_join_80 : decode cX4_join 80 = .ok (.iload_n 2, 1) := by decide +kernel
theorem dX4_join_81 : decode cX4_join 81 = .ok (.iload 11, 2) := by decide +kernel
theorem dX4_join_83 : decode cX4_join 83 = .ok (.iload 5, 2) := by decide +kernel
theorem dX4_join_85 : decode cX4_join 85 = .ok (.imul, 1) := by decide +kernel
theorem dX4_join_86 : decode cX4_join 86 = .ok (.iadd, 1) := by decide +kernel
theorem dX4_join_87 : decode cX4_join 87 = .ok (.iload 14, 2) := by decide +kernel
theorem dX4_join_89 : decode cX4_join 89 = .ok (.iload 5, 2) := by decide +kernel
theorem dX4_join_91 : decode cX4_join 91 = .ok (.invokevirtual 89, 3) := by decide +kernel
theorem dX4_join_94 : decode cX4_join 94 = .ok (.aload_n 0, 1) := by decide +kernel
theorem dX4_join_95 : decode cX4_join 95 = .ok (.getfield 19, 3) := by decide +kernel
theorem dX4_join_98 : decode cX4_join 98 = .ok (.iload 8, 2) := by decide +kernel
theorem dX4_join_100 : decode cX4_join 100 = .ok (.iload 13, 2) := by decide +kernel
theorem dX4_join_102 : decode cX4_join 102 = .ok (.iload 6, 2) := by decide +kernel
theorem dX4_join_104 : decode cX4_join 104 = .ok (.imul, 1) := by decide +kernel
theorem dX4_join_105 : decode cX4_join 105 = .ok (.iadd, 1) := by decide +kernel
theorem dX4_join_106 : decode cX4_join 106 = .ok (.iload 14, 2) := by decide +kernel
theorem dX4_join_108 : decode cX4_join 108 = .ok (.iload 5, 2) := by decide +kernel
theorem dX4_join_110 : decode cX4_join 110 = .ok (.iadd, 1) := by decide +kernel
theorem dX4_join_111 : decode cX4_join 111 = .ok (.iload 6, 2) := by decide +kernel
theorem dX4_join_113 : decode cX4_join 113 = .ok (.invokevirtual 89, 3) := by decide +kernel
theorem dX4_join_116 : decode cX4_join 116 = .ok (.iload 10, 2) := by decide +kernel
theorem dX4_join_118 : decode cX4_join 118 = .ok (.aload_n 0, 1) := by decide +kernel
theorem dX4_join_119 : decode cX4_join 119 = .ok (.getfield 15, 3) := by decide +kernel
theorem dX4_join_122 : decode cX4_join 122 = .ok (.aload_n 1, 1) := by decide +kernel
theorem dX4_join_123 : decode cX4_join 123 = .ok (.getfield 219, 3) := by decide +kernel
theorem dX4_join_126 : decode cX4_join 126 = .ok (.aload_n 0, 1) := by decide +kernel
theorem dX4_join_127 : decode cX4_join 127 = .ok (.getfield 19, 3) := by decide +kernel
theorem dX4_join_130 : decode cX4_join 130 = .ok (.iload 14, 2) := by decide +kernel
theorem dX4_join_132 : decode cX4_join 132 = .ok (.invokevirtual 114, 3) := by decide +kernel
theorem dX4_join_135 : decode cX4_join 135 = .ok (.ifCond .eq 7, 3) := by decide +kernel
theorem dX4_join_138 : decode cX4_join 138 = .ok (.iconst 1, 1) := by decide +kernel
theorem dX4_join_139 : decode cX4_join 139 = .ok (.goto 4, 3) := by decide +kernel
theorem dX4_join_142 : decode cX4_join 142 = .ok (.iconst 0, 1) := by decide +kernel
theorem dX4_join_143 : decode cX4_join 143 = .ok (.iadd, 1) := by decide +kernel
theorem dX4_join_144 : decode cX4_join 144 = .ok (.istore 10, 2) := by decide +kernel
theorem dX4_join_146 : decode cX4_join 146 = .ok (.iinc 13 1, 3) := by decide +kernel
theorem dX4_join_149 : decode cX4_join 149 = .ok (.goto (-90), 3) := by decide +kernel
theorem dX4_join_152 : decode cX4_join 152 = .ok (.aload_n 1, 1) := by decide +kernel
theorem dX4_join_153 : decode cX4_join 153 = .ok (.getfield 222, 3) := by decide +kernel
theorem dX4_join_156 : decode cX4_join 156 = .ok (.ifCond .eq 52, 3) := by decide +kernel
theorem dX4_join_159 : decode cX4_join 159 = .ok (.iload 10, 2) := by decide +kernel
theorem dX4_join_161 : decode cX4_join 161 = .ok (.iload 12, 2) := by decide +kernel
theorem dX4_join_163 : decode cX4_join 163 = .ok (.if_icmp .ne 45, 3) := by decide +kernel
theorem dX4_join_166 : decode cX4_join 166 = .ok (.iload 9, 2) := by decide +kernel
theorem dX4_join_168 : decode cX4_join 168 = .ok (.iload 10, 2) := by decide +kernel
theorem dX4_join_170 : decode cX4_join 170 = .ok (.iload 7, 2) := by decide +kernel
theorem dX4_join_172 : decode cX4_join 172 = .ok (.imul, 1) := by decide +kernel
theorem dX4_join_173 : decode cX4_join 173 = .ok (.iadd, 1) := by decide +kernel
theorem dX4_join_174 : decode cX4_join 174 = .ok (.istore 13, 2) := by decide +kernel
theorem dX4_join_176 : decode cX4_join 176 = .ok (.aload_n 0, 1) := by decide +kernel
theorem dX4_join_177 : decode cX4_join 177 = .ok (.getfield 19, 3) := by decide +kernel
theorem dX4_join_180 : decode cX4_join 180 = .ok (.iload_n 2, 1) := by decide +kernel
theorem dX4_join_181 : decode cX4_join 181 = .ok (.iload 11, 2) := by decide +kernel
theorem dX4_join_183 : decode cX4_join 183 = .ok (.iload 5, 2) := by decide +kernel
theorem dX4_join_185 : decode cX4_join 185 = .ok (.imul, 1) := by decide +kernel
theorem dX4_join_186 : decode cX4_join 186 = .ok (.iadd, 1) := by decide +kernel
theorem dX4_join_187 : decode cX4_join 187 = .ok (.iload 13, 2) := by decide +kernel
theorem dX4_join_189 : decode cX4_join 189 = .ok (.iload 5, 2) := by decide +kernel
theorem dX4_join_191 : decode cX4_join 191 = .ok (.invokevirtual 89, 3) := by decide +kernel
theorem dX4_join_194 : decode cX4_join 194 = .ok (.aload_n 0, 1) := by decide +kernel
theorem dX4_join_195 : decode cX4_join 195 = .ok (.iload 13, 2) := by decide +kernel
theorem dX4_join_197 : decode cX4_join 197 = .ok (.iload 5, 2) := by decide +kernel
theorem dX4_join_199 : decode cX4_join 199 = .ok (.iadd, 1) := by decide +kernel
theorem dX4_join_200 : decode cX4_join 200 = .ok (.iload 6, 2) := by decide +kernel
theorem dX4_join_202 : decode cX4_join 202 = .ok (.invokevirtual 225, 3) := by decide +kernel
theorem dX4_join_205 : decode cX4_join 205 = .ok (.iinc 10 1, 3) := by decide +kernel
theorem dX4_join_208 : decode cX4_join 208 = .ok (.iinc 11 1, 3) := by decide +kernel
theorem dX4_join_211 : decode cX4_join 211 = .ok (.goto (-165), 3) := by decide +kernel
theorem dX4_join_214 : decode cX4_join 214 = .ok (.aload_n 0, 1) := by decide +kernel
theorem dX4_join_215 : decode cX4_join 215 = .ok (.getfield 19, 3) := by decide +kernel
theorem dX4_join_218 : decode cX4_join 218 = .ok (.iload 9, 2) := by decide +kernel
theorem dX4_join_220 : decode cX4_join 220 = .ok (.iload_n 2, 1) := by decide +kernel
theorem dX4_join_221 : decode cX4_join 221 = .ok (.iload 10, 2) := by decide +kernel
theorem dX4_join_223 : decode cX4_join 223 = .ok (.iload 7, 2) := by decide +kernel
theorem dX4_join_225 : decode cX4_join 225 = .ok (.imul, 1) := by decide +kernel
theorem dX4_join_226 : decode cX4_join 226 = .ok (.invokevirtual 89, 3) := by decide +kernel
theorem dX4_join_229 : decode cX4_join 229 = .ok (.iload 10, 2) := by decide +kernel
theorem dX4_join_231 : decode cX4_join 231 = .ok (.ireturn, 1) := by decide +kernel
def c_X4_join_b229 (F : Nat) (cs1 : CS) (u10 : Int32) : Option (CS × Int32) := some (cs1, u10)
def c_X4_join_b208 (F : Nat) (rc46 : CS → Nat → Nat → Int32 → Int32 → Int32 → Int32 → Int32 → Int32 → Int32 → Int32 → Int32 → Int32 → Option (CS × Int32)) (cs1 : CS) (u0 : Nat) (u1 : Nat) (u2 : Int32) (u3 : Int32) (u4 : Int32) (u5 : Int32) (u6 : Int32) (u7 : Int32) (u8 : Int32) (u9 : Int32) (u10 : Int32) (u11 : Int32) : Option (CS × Int32) := rc46 cs1 u0 u1 u2 u3 u4 u5 u6 u7 u8 u9 u10 (u11 + 1)
def c_X4_join_b205 (F : Nat) (rc46 : CS → Nat → Nat → Int32 → Int32 → Int32 → Int32 → Int32 → Int32 → Int32 → Int32 → Int32 → Int32 → Option (CS × Int32)) (cs1 : CS) (u0 : Nat) (u1 : Nat) (u2 : Int32) (u3 : Int32) (u4 : Int32) (u5 : Int32) (u6 : Int32) (u7 : Int32) (u8 : Int32) (u9 : Int32) (u10 : Int32) (u11 : Int32) : Option (CS × Int32) := c_X4_join_b208 F rc46 cs1 u0 u1 u2 u3 u4 u5 u6 u7 u8 u9 (u10 + 1) u11
def c_X4_join_b194 (F : Nat) (rc46 : CS → Nat → Nat → Int32 → Int32 → Int32 → Int32 → Int32 → Int32 → Int32 → Int32 → Int32 → Int32 → Option (CS × Int32)) (cs1 : CS) (u0 : Nat) (u1 : Nat) (u2 : Int32) (u3 : Int32) (u4 : Int32) (u5 : Int32) (u6 : Int32) (u7 : Int32) (u8 : Int32) (u9 : Int32) (u10 : Int32) (u11 : Int32) (u13 : Int32) : Option (CS × Int32) := Option.bind (ckE cs1 5 u0) fun _ => Option.bind (c_X4_blankOut F cs1 u0 (u13 + u5) u6) fun cs_1 => c_X4_join_b205 F rc46 cs_1 u0 u1 u2 u3 u4 u5 u6 u7 u8 u9 u10 u11
def c_X4_join_b143 (F : Nat) (rc46 : CS → Nat → Nat → Int32 → Int32 → Int32 → Int32 → Int32 → Int32 → Int32 → Int32 → Int32 → Int32 → Option (CS × Int32)) (rc59 : CS → Nat → Nat → Int32 → Int32 → Int32 → Int32 → Int32 → Int32 → Int32 → Int32 → Int32 → Int32 → Int32 → Int32 → Option (CS × Int32)) (cs1 : CS) (u0 : Nat) (u1 : Nat) (u2 : Int32) (u3 : Int32) (u4 : Int32) (u5 : Int32) (u6 : Int32) (u7 : Int32) (u8 : Int32) (u9 : Int32) (u11 : Int32) (u12 : Int32) (u13 : Int32) (y0 : Int32) (y1 : Int32) : Option (CS × Int32) := rc59 cs1 u0 u1 u2 u3 u4 u5 u6 u7 u8 u9 (y1 + y0) u11 u12 (u13 + 1)
def c_X4_join_b116 (F : Nat) (rc46 : CS → Nat → Nat → Int32 → Int32 → Int32 → Int32 → Int32 → Int32 → Int32 → Int32 → Int32 → Int32 → Option (CS × Int32)) (rc59 : CS → Nat → Nat → Int32 → Int32 → Int32 → Int32 → Int32 → Int32 → Int32 → Int32 → Int32 → Int32 → Int32 → Int32 → Option (CS × Int32)) (cs1 : CS) (u0 : Nat) (u1 : Nat) (u2 : Int32) (u3 : Int32) (u4 : Int32) (u5 : Int32) (u6 : Int32) (u7 : Int32) (u8 : Int32) (u9 : Int32) (u10 : Int32) (u11 : Int32) (u12 : Int32) (u13 : Int32) (u14 : Int32) : Option (CS × Int32) := Option.bind (gR cs1 5 161 u0) fun v_3 => Option.bind (gI cs1 7 233 u1) fun v_4 => Option.bind (gR cs1 5 162 u0) fun v_5 => Option.bind (v_5) fun i_6 => Option.bind (v_3) fun i_8 => Option.bind (ckE cs1 2 i_8) fun _ => Option.bind (c_X1_compute F cs1 i_8 v_4 i_6 u14) fun z_7 => if z_7.2 = 0 then (c_X4_join_b143 F rc46 rc59 z_7.1 u0 u1 u2 u3 u4 u5 u6 u7 u8 u9 u11 u12 u13 0 u10) else (c_X4_join_b143 F rc46 rc59 z_7.1 u0 u1 u2 u3 u4 u5 u6 u7 u8 u9 u11 u12 u13 1 u10)
def c_X4_join_b94 (F : Nat) (rc46 : CS → Nat → Nat → Int32 → Int32 → Int32 → Int32 → Int32 → Int32 → Int32 → Int32 → Int32 → Int32 → Option (CS × Int32)) (rc59 : CS → Nat → Nat → Int32 → Int32 → Int32 → Int32 → Int32 → Int32 → Int32 → Int32 → Int32 → Int32 → Int32 → Int32 → Option (CS × Int32)) (cs1 : CS) (u0 : Nat) (u1 : Nat) (u2 : Int32) (u3 : Int32) (u4 : Int32) (u5 : Int32) (u6 : Int32) (u7 : Int32) (u8 : Int32) (u9 : Int32) (u10 : Int32) (u11 : Int32) (u12 : Int32) (u13 : Int32) (u14 : Int32) : Option (CS × Int32) := Option.bind (gR cs1 5 162 u0) fun v_11 => Option.bind (v_11) fun i_13 => Option.bind (ckE cs1 9 i_13) fun _ => Option.bind (c_X8_copy F cs1 i_13 (u8 + (u13 * u6)) (u14 + u5) u6) fun cs_12 => c_X4_join_b116 F rc46 rc59 cs_12 u0 u1 u2 u3 u4 u5 u6 u7 u8 u9 u10 u11 u12 u13 u14
def c_X4_join_L59 (F : Nat) (rc46 : CS → Nat → Nat → Int32 → Int32 → Int32 → Int32 → Int32 → Int32 → Int32 → Int32 → Int32 → Int32 → Option (CS × Int32)) : Nat → CS → Nat → Nat → Int32 → Int32 → Int32 → Int32 → Int32 → Int32 → Int32 → Int32 → Int32 → Int32 → Int32 → Int32 → Option (CS × Int32)
  | 0, _, _, _, _, _, _, _, _, _, _, _, _, _, _, _ => none
  | lf_59 + 1, cs1, u0, u1, u2, u3, u4, u5, u6, u7, u8, u9, u10, u11, u12, u13 => if u4 ≤ u13 then (Option.bind (gI cs1 7 231 u1) fun v_16 => if v_16 = 0 then (c_X4_join_b208 F rc46 cs1 u0 u1 u2 u3 u4 u5 u6 u7 u8 u9 u10 u11) else (if u10 = u12 then (Option.bind (gR cs1 5 162 u0) fun v_19 => Option.bind (v_19) fun i_21 => Option.bind (ckE cs1 9 i_21) fun _ => Option.bind (c_X8_copy F cs1 i_21 (u2 + (u11 * u5)) (u9 + (u10 * u7)) u5) fun cs_20 => c_X4_join_b194 F rc46 cs_20 u0 u1 u2 u3 u4 u5 u6 u7 u8 u9 u10 u11 (u9 + (u10 * u7))) else (c_X4_join_b208 F rc46 cs1 u0 u1 u2 u3 u4 u5 u6 u7 u8 u9 u10 u11))) else (Option.bind (gR cs1 5 162 u0) fun v_23 => Option.bind (v_23) fun i_25 => Option.bind (ckE cs1 9 i_25) fun _ => Option.bind (c_X8_copy F cs1 i_25 (u2 + (u11 * u5)) (u9 + (u10 * u7)) u5) fun cs_24 => c_X4_join_b94 F rc46 (c_X4_join_L59 F rc46 lf_59) cs_24 u0 u1 u2 u3 u4 u5 u6 u7 u8 u9 u10 u11 u12 u13 (u9 + (u10 * u7)))
def c_X4_join_L46 (F : Nat) : Nat → CS → Nat → Nat → Int32 → Int32 → Int32 → Int32 → Int32 → Int32 → Int32 → Int32 → Int32 → Int32 → Option (CS × Int32)
  | 0, _, _, _, _, _, _, _, _, _, _, _, _, _ => none
  | lf_46 + 1, cs1, u0, u1, u2, u3, u4, u5, u6, u7, u8, u9, u10, u11 => if u3 ≤ u11 then (Option.bind (gR cs1 5 162 u0) fun v_28 => Option.bind (v_28) fun i_30 => Option.bind (ckE cs1 9 i_30) fun _ => Option.bind (c_X8_copy F cs1 i_30 u9 u2 (u10 * u7)) fun cs_29 => c_X4_join_b229 F cs_29 u10) else (c_X4_join_L59 F (c_X4_join_L46 F lf_46) F cs1 u0 u1 u2 u3 u4 u5 u6 u7 u8 u9 u10 u11 u10 0)
def c_X4_join (F : Nat) (cs : CS) (x0 : Nat) (x1 : Nat) (x2 : Int32) (x3 : Int32) (x4 : Int32) : Option (CS × Int32) := Option.bind (gI cs 7 234 x1) fun v_32 => Option.bind (gR cs 7 235 x1) fun v_33 => Option.bind (v_33) fun i_34 => Option.bind (gI cs 3 96 i_34) fun v_35 => c_X4_join_L46 F F cs x0 x1 x2 x3 x4 v_32 v_35 (v_32 + v_35) (x2 + (x3 * v_32)) ((x2 + (x3 * v_32)) + (x4 * v_35)) 0 0
theorem cw_X4_X4_join {R : Room} {s : State} {args : Array Value} {y0 : MethodName} {c0 : ByteArray} {n0 : Nat} {r0 : Option FieldType} (hts : ∀ w ∈ wsOf y0 c0 n0 r0, w.before args s = true) {fr mc ms : Nat} (h1 : fr + 1 ≤ R.frames) (h2 : 8 + (15 + 11) + 60 * fr ≤ R.locals) : CallW R s args RX4 RX4 187 yX4_join cX4_join 15 (some .int) (wsOf yX4_join cX4_join 15 (some .int)) ({ frames := fr, cells := mc, slots := ms, locals := 60 * fr } : Room) mc ms 4 := cwV 4 hts (gd_all (in_V kw_1404 kw_1406 kw_72 kw_206 kc_X4_join)) rfl rfl rfl (by decide +kernel) ⟨h1, h2⟩
theorem mo_c_X4_join_b229 (F : Nat) (cs1 : CS) (u10 : Int32) (cs9 : CS) (r9 : Int32) (h : c_X4_join_b229 F cs1 u10 = some (cs9, r9)) : kK cs1 ≤ kK cs9 ∧ kM cs1 ≤ kM cs9 := by
  unfold c_X4_join_b229 at h
  have h9 := (Prod.mk.inj (Option.some.inj h)).1
  have k9 := congrArg kK h9; have m9 := congrArg kM h9; exact ⟨by omega, by omega⟩
theorem mo_c_X4_join_b208 (F : Nat) (rc46 : CS → Nat → Nat → Int32 → Int32 → Int32 → Int32 → Int32 → Int32 → Int32 → Int32 → Int32 → Int32 → Option (CS × Int32)) (hrc46 : ∀ (cs1 : CS) (u0 : Nat) (u1 : Nat) (u2 : Int32) (u3 : Int32) (u4 : Int32) (u5 : Int32) (u6 : Int32) (u7 : Int32) (u8 : Int32) (u9 : Int32) (u10 : Int32) (u11 : Int32) (cs9 : CS) (r9 : Int32), rc46 cs1 u0 u1 u2 u3 u4 u5 u6 u7 u8 u9 u10 u11 = some (cs9, r9) → kK cs1 ≤ kK cs9 ∧ kM cs1 ≤ kM cs9) (cs1 : CS) (u0 : Nat) (u1 : Nat) (u2 : Int32) (u3 : Int32) (u4 : Int32) (u5 : Int32) (u6 : Int32) (u7 : Int32) (u8 : Int32) (u9 : Int32) (u10 : Int32) (u11 : Int32) (cs9 : CS) (r9 : Int32) (h : c_X4_join_b208 F rc46 cs1 u0 u1 u2 u3 u4 u5 u6 u7 u8 u9 u10 u11 = some (cs9, r9)) : kK cs1 ≤ kK cs9 ∧ kM cs1 ≤ kM cs9 := by
  unfold c_X4_join_b208 at h
  obtain ⟨k9, m9⟩ := hrc46 cs1 u0 u1 u2 u3 u4 u5 u6 u7 u8 u9 u10 (u11 + 1) cs9 r9 h
  exact ⟨by omega, by omega⟩
theorem mo_c_X4_join_b205 (F : Nat) (rc46 : CS → Nat → Nat → Int32 → Int32 → Int32 → Int32 → Int32 → Int32 → Int32 → Int32 → Int32 → Int32 → Option (CS × Int32)) (hrc46 : ∀ (cs1 : CS) (u0 : Nat) (u1 : Nat) (u2 : Int32) (u3 : Int32) (u4 : Int32) (u5 : Int32) (u6 : Int32) (u7 : Int32) (u8 : Int32) (u9 : Int32) (u10 : Int32) (u11 : Int32) (cs9 : CS) (r9 : Int32), rc46 cs1 u0 u1 u2 u3 u4 u5 u6 u7 u8 u9 u10 u11 = some (cs9, r9) → kK cs1 ≤ kK cs9 ∧ kM cs1 ≤ kM cs9) (cs1 : CS) (u0 : Nat) (u1 : Nat) (u2 : Int32) (u3 : Int32) (u4 : Int32) (u5 : Int32) (u6 : Int32) (u7 : Int32) (u8 : Int32) (u9 : Int32) (u10 : Int32) (u11 : Int32) (cs9 : CS) (r9 : Int32) (h : c_X4_join_b205 F rc46 cs1 u0 u1 u2 u3 u4 u5 u6 u7 u8 u9 u10 u11 = some (cs9, r9)) : kK cs1 ≤ kK cs9 ∧ kM cs1 ≤ kM cs9 := by
  unfold c_X4_join_b205 at h
  obtain ⟨k9, m9⟩ := mo_c_X4_join_b208 F rc46 hrc46 cs1 u0 u1 u2 u3 u4 u5 u6 u7 u8 u9 (u10 + 1) u11 cs9 r9 h
  exact ⟨by omega, by omega⟩
theorem mo_c_X4_join_b194 (F : Nat) (rc46 : CS → Nat → Nat → Int32 → Int32 → Int32 → Int32 → Int32 → Int32 → Int32 → Int32 → Int32 → Int32 → Option (CS × Int32)) (hrc46 : ∀ (cs1 : CS) (u0 : Nat) (u1 : Nat) (u2 : Int32) (u3 : Int32) (u4 : Int32) (u5 : Int32) (u6 : Int32) (u7 : Int32) (u8 : Int32) (u9 : Int32) (u10 : Int32) (u11 : Int32) (cs9 : CS) (r9 : Int32), rc46 cs1 u0 u1 u2 u3 u4 u5 u6 u7 u8 u9 u10 u11 = some (cs9, r9) → kK cs1 ≤ kK cs9 ∧ kM cs1 ≤ kM cs9) (cs1 : CS) (u0 : Nat) (u1 : Nat) (u2 : Int32) (u3 : Int32) (u4 : Int32) (u5 : Int32) (u6 : Int32) (u7 : Int32) (u8 : Int32) (u9 : Int32) (u10 : Int32) (u11 : Int32) (u13 : Int32) (cs9 : CS) (r9 : Int32) (h : c_X4_join_b194 F rc46 cs1 u0 u1 u2 u3 u4 u5 u6 u7 u8 u9 u10 u11 u13 = some (cs9, r9)) : kK cs1 ≤ kK cs9 ∧ kM cs1 ≤ kM cs9 := by
  unfold c_X4_join_b194 at h
  replace h := ob h; obtain ⟨w_33, hw_33, h⟩ := h
  replace h := ob h; obtain ⟨cs_32, hv_32, h⟩ := h
  obtain ⟨qk_32, qm_32⟩ := mo_c_X4_blankOut F cs1 u0 (u13 + u5) u6 cs_32 hv_32
  obtain ⟨k9, m9⟩ := mo_c_X4_join_b205 F rc46 hrc46 cs_32 u0 u1 u2 u3 u4 u5 u6 u7 u8 u9 u10 u11 cs9 r9 h
  exact ⟨by omega, by omega⟩
theorem mo_c_X4_join_b143 (F : Nat) (rc46 : CS → Nat → Nat → Int32 → Int32 → Int32 → Int32 → Int32 → Int32 → Int32 → Int32 → Int32 → Int32 → Option (CS × Int32)) (hrc46 : ∀ (cs1 : CS) (u0 : Nat) (u1 : Nat) (u2 : Int32) (u3 : Int32) (u4 : Int32) (u5 : Int32) (u6 : Int32) (u7 : Int32) (u8 : Int32) (u9 : Int32) (u10 : Int32) (u11 : Int32) (cs9 : CS) (r9 : Int32), rc46 cs1 u0 u1 u2 u3 u4 u5 u6 u7 u8 u9 u10 u11 = some (cs9, r9) → kK cs1 ≤ kK cs9 ∧ kM cs1 ≤ kM cs9) (rc59 : CS → Nat → Nat → Int32 → Int32 → Int32 → Int32 → Int32 → Int32 → Int32 → Int32 → Int32 → Int32 → Int32 → Int32 → Option (CS × Int32)) (hrc59 : ∀ (cs1 : CS) (u0 : Nat) (u1 : Nat) (u2 : Int32) (u3 : Int32) (u4 : Int32) (u5 : Int32) (u6 : Int32) (u7 : Int32) (u8 : Int32) (u9 : Int32) (u10 : Int32) (u11 : Int32) (u12 : Int32) (u13 : Int32) (cs9 : CS) (r9 : Int32), rc59 cs1 u0 u1 u2 u3 u4 u5 u6 u7 u8 u9 u10 u11 u12 u13 = some (cs9, r9) → kK cs1 ≤ kK cs9 ∧ kM cs1 ≤ kM cs9) (cs1 : CS) (u0 : Nat) (u1 : Nat) (u2 : Int32) (u3 : Int32) (u4 : Int32) (u5 : Int32) (u6 : Int32) (u7 : Int32) (u8 : Int32) (u9 : Int32) (u11 : Int32) (u12 : Int32) (u13 : Int32) (y0 : Int32) (y1 : Int32) (cs9 : CS) (r9 : Int32) (h : c_X4_join_b143 F rc46 rc59 cs1 u0 u1 u2 u3 u4 u5 u6 u7 u8 u9 u11 u12 u13 y0 y1 = some (cs9, r9)) : kK cs1 ≤ kK cs9 ∧ kM cs1 ≤ kM cs9 := by
  unfold c_X4_join_b143 at h
  obtain ⟨k9, m9⟩ := hrc59 cs1 u0 u1 u2 u3 u4 u5 u6 u7 u8 u9 (y1 + y0) u11 u12 (u13 + 1) cs9 r9 h
  exact ⟨by omega, by omega⟩
theorem mo_c_X4_join_b116 (F : Nat) (rc46 : CS → Nat → Nat → Int32 → Int32 → Int32 → Int32 → Int32 → Int32 → Int32 → Int32 → Int32 → Int32 → Option (CS × Int32)) (hrc46 : ∀ (cs1 : CS) (u0 : Nat) (u1 : Nat) (u2 : Int32) (u3 : Int32) (u4 : Int32) (u5 : Int32) (u6 : Int32) (u7 : Int32) (u8 : Int32) (u9 : Int32) (u10 : Int32) (u11 : Int32) (cs9 : CS) (r9 : Int32), rc46 cs1 u0 u1 u2 u3 u4 u5 u6 u7 u8 u9 u10 u11 = some (cs9, r9) → kK cs1 ≤ kK cs9 ∧ kM cs1 ≤ kM cs9) (rc59 : CS → Nat → Nat → Int32 → Int32 → Int32 → Int32 → Int32 → Int32 → Int32 → Int32 → Int32 → Int32 → Int32 → Int32 → Option (CS × Int32)) (hrc59 : ∀ (cs1 : CS) (u0 : Nat) (u1 : Nat) (u2 : Int32) (u3 : Int32) (u4 : Int32) (u5 : Int32) (u6 : Int32) (u7 : Int32) (u8 : Int32) (u9 : Int32) (u10 : Int32) (u11 : Int32) (u12 : Int32) (u13 : Int32) (cs9 : CS) (r9 : Int32), rc59 cs1 u0 u1 u2 u3 u4 u5 u6 u7 u8 u9 u10 u11 u12 u13 = some (cs9, r9) → kK cs1 ≤ kK cs9 ∧ kM cs1 ≤ kM cs9) (cs1 : CS) (u0 : Nat) (u1 : Nat) (u2 : Int32) (u3 : Int32) (u4 : Int32) (u5 : Int32) (u6 : Int32) (u7 : Int32) (u8 : Int32) (u9 : Int32) (u10 : Int32) (u11 : Int32) (u12 : Int32) (u13 : Int32) (u14 : Int32) (cs9 : CS) (r9 : Int32) (h : c_X4_join_b116 F rc46 rc59 cs1 u0 u1 u2 u3 u4 u5 u6 u7 u8 u9 u10 u11 u12 u13 u14 = some (cs9, r9)) : kK cs1 ≤ kK cs9 ∧ kM cs1 ≤ kM cs9 := by
  unfold c_X4_join_b116 at h
  replace h := ob h; obtain ⟨v_32, hv_32, h⟩ := h
  replace h := ob h; obtain ⟨v_33, hv_33, h⟩ := h
  replace h := ob h; obtain ⟨v_34, hv_34, h⟩ := h
  replace h := ob h; obtain ⟨i_35, hi_35, h⟩ := h
  subst hi_35
  replace h := ob h; obtain ⟨i_37, hi_37, h⟩ := h
  subst hi_37
  replace h := ob h; obtain ⟨w_38, hw_38, h⟩ := h
  replace h := ob h; obtain ⟨z_36, hv_36, h⟩ := h
  obtain ⟨qk_36, qm_36⟩ := k_of (mo_c_X1_compute F cs1 i_37 v_33 i_35 u14 z_36.1 z_36.2 hv_36)
  by_cases c_39 : z_36.2 = 0
  · skip
    replace h := (if_pos c_39).symm.trans h
    obtain ⟨k9, m9⟩ := mo_c_X4_join_b143 F rc46 hrc46 rc59 hrc59 z_36.1 u0 u1 u2 u3 u4 u5 u6 u7 u8 u9 u11 u12 u13 0 u10 cs9 r9 h
    exact ⟨by omega, by omega⟩
  · skip
    replace h := (if_neg c_39).symm.trans h
    obtain ⟨k9, m9⟩ := mo_c_X4_join_b143 F rc46 hrc46 rc59 hrc59 z_36.1 u0 u1 u2 u3 u4 u5 u6 u7 u8 u9 u11 u12 u13 1 u10 cs9 r9 h
    exact ⟨by omega, by omega⟩
theorem mo_c_X4_join_b94 (F : Nat) (rc46 : CS → Nat → Nat → Int32 → Int32 → Int32 → Int32 → Int32 → Int32 → Int32 → Int32 → Int32 → Int32 → Option (CS × Int32)) (hrc46 : ∀ (cs1 : CS) (u0 : Nat) (u1 : Nat) (u2 : Int32) (u3 : Int32) (u4 : Int32) (u5 : Int32) (u6 : Int32) (u7 : Int32) (u8 : Int32) (u9 : Int32) (u10 : Int32) (u11 : Int32) (cs9 : CS) (r9 : Int32), rc46 cs1 u0 u1 u2 u3 u4 u5 u6 u7 u8 u9 u10 u11 = some (cs9, r9) → kK cs1 ≤ kK cs9 ∧ kM cs1 ≤ kM cs9) (rc59 : CS → Nat → Nat → Int32 → Int32 → Int32 → Int32 → Int32 → Int32 → Int32 → Int32 → Int32 → Int32 → Int32 → Int32 → Option (CS × Int32)) (hrc59 : ∀ (cs1 : CS) (u0 : Nat) (u1 : Nat) (u2 : Int32) (u3 : Int32) (u4 : Int32) (u5 : Int32) (u6 : Int32) (u7 : Int32) (u8 : Int32) (u9 : Int32) (u10 : Int32) (u11 : Int32) (u12 : Int32) (u13 : Int32) (cs9 : CS) (r9 : Int32), rc59 cs1 u0 u1 u2 u3 u4 u5 u6 u7 u8 u9 u10 u11 u12 u13 = some (cs9, r9) → kK cs1 ≤ kK cs9 ∧ kM cs1 ≤ kM cs9) (cs1 : CS) (u0 : Nat) (u1 : Nat) (u2 : Int32) (u3 : Int32) (u4 : Int32) (u5 : Int32) (u6 : Int32) (u7 : Int32) (u8 : Int32) (u9 : Int32) (u10 : Int32) (u11 : Int32) (u12 : Int32) (u13 : Int32) (u14 : Int32) (cs9 : CS) (r9 : Int32) (h : c_X4_join_b94 F rc46 rc59 cs1 u0 u1 u2 u3 u4 u5 u6 u7 u8 u9 u10 u11 u12 u13 u14 = some (cs9, r9)) : kK cs1 ≤ kK cs9 ∧ kM cs1 ≤ kM cs9 := by
  unfold c_X4_join_b94 at h
  replace h := ob h; obtain ⟨v_32, hv_32, h⟩ := h
  replace h := ob h; obtain ⟨i_34, hi_34, h⟩ := h
  subst hi_34
  replace h := ob h; obtain ⟨w_35, hw_35, h⟩ := h
  replace h := ob h; obtain ⟨cs_33, hv_33, h⟩ := h
  obtain ⟨qk_33, qm_33⟩ := mo_c_X8_copy F cs1 i_34 (u8 + (u13 * u6)) (u14 + u5) u6 cs_33 hv_33
  obtain ⟨k9, m9⟩ := mo_c_X4_join_b116 F rc46 hrc46 rc59 hrc59 cs_33 u0 u1 u2 u3 u4 u5 u6 u7 u8 u9 u10 u11 u12 u13 u14 cs9 r9 h
  exact ⟨by omega, by omega⟩
theorem mo_c_X4_join_L59 (F : Nat) (rc46 : CS → Nat → Nat → Int32 → Int32 → Int32 → Int32 → Int32 → Int32 → Int32 → Int32 → Int32 → Int32 → Option (CS × Int32)) (hrc46 : ∀ (cs1 : CS) (u0 : Nat) (u1 : Nat) (u2 : Int32) (u3 : Int32) (u4 : Int32) (u5 : Int32) (u6 : Int32) (u7 : Int32) (u8 : Int32) (u9 : Int32) (u10 : Int32) (u11 : Int32) (cs9 : CS) (r9 : Int32), rc46 cs1 u0 u1 u2 u3 u4 u5 u6 u7 u8 u9 u10 u11 = some (cs9, r9) → kK cs1 ≤ kK cs9 ∧ kM cs1 ≤ kM cs9) : ∀ (lf_59 : Nat) (cs1 : CS) (u0 : Nat) (u1 : Nat) (u2 : Int32) (u3 : Int32) (u4 : Int32) (u5 : Int32) (u6 : Int32) (u7 : Int32) (u8 : Int32) (u9 : Int32) (u10 : Int32) (u11 : Int32) (u12 : Int32) (u13 : Int32) (cs9 : CS) (r9 : Int32), c_X4_join_L59 F rc46 lf_59 cs1 u0 u1 u2 u3 u4 u5 u6 u7 u8 u9 u10 u11 u12 u13 = some (cs9, r9) → kK cs1 ≤ kK cs9 ∧ kM cs1 ≤ kM cs9 := by
  intro lf_59
  induction lf_59 with
  | zero => intro cs1 u0 u1 u2 u3 u4 u5 u6 u7 u8 u9 u10 u11 u12 u13 cs9 r9 h; cases (show (none : Option (CS × Int32)) = _ from h)
  | succ lf_59 ih_59 =>
    intro cs1 u0 u1 u2 u3 u4 u5 u6 u7 u8 u9 u10 u11 u12 u13 cs9 r9 h
    rw [c_X4_join_L59] at h
    by_cases c_32 : u4 ≤ u13
    · skip
      replace h := (if_pos c_32).symm.trans h
      replace h := ob h; obtain ⟨v_33, hv_33, h⟩ := h
      by_cases c_34 : v_33 = 0
      · skip
        replace h := (if_pos c_34).symm.trans h
        obtain ⟨k9, m9⟩ := mo_c_X4_join_b208 F rc46 hrc46 cs1 u0 u1 u2 u3 u4 u5 u6 u7 u8 u9 u10 u11 cs9 r9 h
        exact ⟨by omega, by omega⟩
      · skip
        replace h := (if_neg c_34).symm.trans h
        by_cases c_35 : u10 = u12
        · skip
          replace h := (if_pos c_35).symm.trans h
          replace h := ob h; obtain ⟨v_36, hv_36, h⟩ := h
          replace h := ob h; obtain ⟨i_38, hi_38, h⟩ := h
          subst hi_38
          replace h := ob h; obtain ⟨w_39, hw_39, h⟩ := h
          replace h := ob h; obtain ⟨cs_37, hv_37, h⟩ := h
          obtain ⟨qk_37, qm_37⟩ := mo_c_X8_copy F cs1 i_38 (u2 + (u11 * u5)) (u9 + (u10 * u7)) u5 cs_37 hv_37
          obtain ⟨k9, m9⟩ := mo_c_X4_join_b194 F rc46 hrc46 cs_37 u0 u1 u2 u3 u4 u5 u6 u7 u8 u9 u10 u11 (u9 + (u10 * u7)) cs9 r9 h
          exact ⟨by omega, by omega⟩
        · skip
          replace h := (if_neg c_35).symm.trans h
          obtain ⟨k9, m9⟩ := mo_c_X4_join_b208 F rc46 hrc46 cs1 u0 u1 u2 u3 u4 u5 u6 u7 u8 u9 u10 u11 cs9 r9 h
          exact ⟨by omega, by omega⟩
    · skip
      replace h := (if_neg c_32).symm.trans h
      replace h := ob h; obtain ⟨v_40, hv_40, h⟩ := h
      replace h := ob h; obtain ⟨i_42, hi_42, h⟩ := h
      subst hi_42
      replace h := ob h; obtain ⟨w_43, hw_43, h⟩ := h
      replace h := ob h; obtain ⟨cs_41, hv_41, h⟩ := h
      obtain ⟨qk_41, qm_41⟩ := mo_c_X8_copy F cs1 i_42 (u2 + (u11 * u5)) (u9 + (u10 * u7)) u5 cs_41 hv_41
      obtain ⟨k9, m9⟩ := mo_c_X4_join_b94 F rc46 hrc46 (c_X4_join_L59 F rc46 lf_59) ih_59 cs_41 u0 u1 u2 u3 u4 u5 u6 u7 u8 u9 u10 u11 u12 u13 (u9 + (u10 * u7)) cs9 r9 h
      exact ⟨by omega, by omega⟩
theorem mo_c_X4_join_L46 (F : Nat) : ∀ (lf_46 : Nat) (cs1 : CS) (u0 : Nat) (u1 : Nat) (u2 : Int32) (u3 : Int32) (u4 : Int32) (u5 : Int32) (u6 : Int32) (u7 : Int32) (u8 : Int32) (u9 : Int32) (u10 : Int32) (u11 : Int32) (cs9 : CS) (r9 : Int32), c_X4_join_L46 F lf_46 cs1 u0 u1 u2 u3 u4 u5 u6 u7 u8 u9 u10 u11 = some (cs9, r9) → kK cs1 ≤ kK cs9 ∧ kM cs1 ≤ kM cs9 := by
  intro lf_46
  induction lf_46 with
  | zero => intro cs1 u0 u1 u2 u3 u4 u5 u6 u7 u8 u9 u10 u11 cs9 r9 h; cases (show (none : Option (CS × Int32)) = _ from h)
  | succ lf_46 ih_46 =>
    intro cs1 u0 u1 u2 u3 u4 u5 u6 u7 u8 u9 u10 u11 cs9 r9 h
    rw [c_X4_join_L46] at h
    by_cases c_32 : u3 ≤ u11
    · skip
      replace h := (if_pos c_32).symm.trans h
      replace h := ob h; obtain ⟨v_33, hv_33, h⟩ := h
      replace h := ob h; obtain ⟨i_35, hi_35, h⟩ := h
      subst hi_35
      replace h := ob h; obtain ⟨w_36, hw_36, h⟩ := h
      replace h := ob h; obtain ⟨cs_34, hv_34, h⟩ := h
      obtain ⟨qk_34, qm_34⟩ := mo_c_X8_copy F cs1 i_35 u9 u2 (u10 * u7) cs_34 hv_34
      obtain ⟨k9, m9⟩ := mo_c_X4_join_b229 F cs_34 u10 cs9 r9 h
      exact ⟨by omega, by omega⟩
    · skip
      replace h := (if_neg c_32).symm.trans h
      obtain ⟨k9, m9⟩ := mo_c_X4_join_L59 F (c_X4_join_L46 F lf_46) ih_46 F cs1 u0 u1 u2 u3 u4 u5 u6 u7 u8 u9 u10 u11 u10 0 cs9 r9 h
      exact ⟨by omega, by omega⟩
theorem mo_c_X4_join (F : Nat) (cs : CS) (x0 : Nat) (x1 : Nat) (x2 : Int32) (x3 : Int32) (x4 : Int32) (cs9 : CS) (r9 : Int32) (h : c_X4_join F cs x0 x1 x2 x3 x4 = some (cs9, r9)) : kK cs ≤ kK cs9 ∧ kM cs ≤ kM cs9 := by
  unfold c_X4_join at h
  replace h := ob h; obtain ⟨v_32, hv_32, h⟩ := h
  replace h := ob h; obtain ⟨v_33, hv_33, h⟩ := h
  replace h := ob h; obtain ⟨i_34, hi_34, h⟩ := h
  subst hi_34
  replace h := ob h; obtain ⟨v_35, hv_35, h⟩ := h
  obtain ⟨k9, m9⟩ := mo_c_X4_join_L46 F F cs x0 x1 x2 x3 x4 v_32 v_35 (v_32 + v_35) (x2 + (x3 * v_32)) ((x2 + (x3 * v_32)) + (x4 * v_35)) 0 0 cs9 r9 h
  exact ⟨by omega, by omega⟩
set_option maxHeartbeats 4000000 in
set_option maxRecDepth 100000 in
theorem sa_X4_join (l : Launch) (dC : Nat → ClassId) (dI : Nat → Nat → Nat) (cB cI cJ cZ cS cO : ClassId) (b : Nat) (K V : Nat → Nat) (fz : Value) (F : Nat) (cs : CS) (x0 : Nat) (x1 : Nat) (x2 : Int32) (x3 : Int32) (x4 : Int32) (cs9 : CS) (r9 : Int32) (hf : c_X4_join F cs x0 x1 x2 x3 x4 = some (cs9, r9)) : oaI l dC dI cB cI cJ cZ cS cO b K V fz yX4_join (wsOf yX4_join cX4_join 15 (some .int)) (6) [.ref (b + x0), .ref (b + x1), .int x2, .int x3, .int x4] cs cs9 r9 := by
  obtain ⟨kb9, mb9⟩ := mo_c_X4_join F cs x0 x1 x2 x3 x4 cs9 r9 hf
  refine ⟨⟨kb9, mb9⟩, ?_⟩
  refine Met.ofW (cc := cX4_join) (maxL := 15) (ret := (some .int)) (by decide) rfl ?_
  intro p e s m args below meth c s₁ B hml hv
  obtain ⟨rfl, hsz, hP, hK, hD0, hZ⟩ := hv
  have hx := B.exec
  have hb := B.bytes
  have hr := B.returns
  have hts := atoms_spec (ws := (wsOf yX4_join cX4_join 15 (some .int))) B.pre
  have hown : s.vm.findClass RX4 = some m.cls := findClass_of_methodNamed B.named
  have hlocks := B.notSynchronized
  have hD := hD0.self (sz := b + kK cs)
  generalize hAe : va_A (cW cB cI cJ cZ cS cO b cs) (b + kK cs) = A at hD hZ ⊢
  have hA : ∀ q : Nat, s.heap.size ≤ q → A q := fun q h => by rw [← hAe]; exact Or.inr (by omega)
  have hS : va_S A s.heap s.heap [] := va_S.rf
  have hG : va_S A s.heap s.heap [] := va_S.rf
  have hgz : s.heap.size = b + kK cs := hsz
  have hl := lv_entry ([.ref (b + x0), .ref (b + x1), .int x2, .int x3, .int x4]) (n := 15) (Nat.le_of_ble_eq_true rfl)
  rw [lg_entry_eq]
  generalize (lg_sl ([.ref (b + x0), .ref (b + x1), .int x2, .int x3, .int x4]) ++ List.replicate (15 - (lg_sl ([.ref (b + x0), .ref (b + x1), .int x2, .int x3, .int x4])).length) Slot.unset).toArray = ls at hl ⊢
  have hl : lv_has ls 15 [(0, .ref (b + x0)), (1, .ref (b + x1)), (2, .int x2), (3, .int x3), (4, .int x4)] := hl
  have B_229 : ∀ (cs1 : CS) (u10 : Int32), c_X4_join_b229 F cs1 u10 = some (cs9, r9) → kK cs ≤ kK cs1 → kM cs ≤ kM cs1 → ∀ (Gh H : Heap) (locs : List Loc) (ls : Array Slot), va_P (dC, dI) vwCl (cW cB cI cJ cZ cS cO b cs1) H → va_D A (cW cB cI cJ cZ cS cO b cs1) → va_S A s.heap Gh [] → Gh.size = b + kK cs1 → va_S A Gh H locs → lv_has ls 15 [(10, .int u10)] → W p l e (headSpec (wsOf yX4_join cX4_join 15 (some .int)) ({ frames := 6, cells := kK cs9 - kK cs, slots := kM cs9 - kM cs, locals := 60 * (6) } : Room)).room s m ([.ref (b + x0), .ref (b + x1), .int x2, .int x3, .int x4] : List Value).toArray below meth c H locs (kK cs1 - kK cs) (kM cs1 - kM cs) (MQ below (va_Qi (fun (x : Int32) (_ : Unit) => x = r9) (fun _ t_ => va_P (dC, dI) vwCl (cW cB cI cJ cZ cS cO b cs9) t_.heap ∧ va_D A (cW cB cI cJ cZ cS cO b cs9) ∧ b + kK cs9 ≤ t_.heap.size) A) ([.ref (b + x0), .ref (b + x1), .int x2, .int x3, .int x4] : List Value).toArray s (kK cs9 - kK cs) (kM cs9 - kM cs) A) (F0 m 229 ls []) := by
    intro cs1 u10 h hmk hmm Gh H locs ls hP hD hG hgz hS hl
    obtain ⟨kb9, mb9⟩ := mo_c_X4_join_b229 F cs1 u10 cs9 r9 h
    unfold c_X4_join_b229 at h
    refine lv_iload hx hb dX4_join_229 (lv_at hl 0 rfl) ?_
    obtain ⟨e1, e2⟩ := Prod.mk.inj (Option.some.inj h)
    rw [e1] at hP hD
    have e3 := congrArg kK e1
    have e4 := congrArg kM e1
    refine W_cnt (c2 := kK cs9 - kK cs) (n2 := kM cs9 - kM cs) (by omega) (by omega) ?_
    exact W.iret (v := u10) hx hb hr (fun t_ ht hW => ⟨⟨u10, (), rfl, e2, by rw [ht]; exact hP, hD, by rw [ht]; have := hS.1; omega⟩, (hG.comp hS).F ht⟩) (hG.comp hS).2.2 dX4_join_231
  have L_46 : ∀ (lf_46 : Nat), ∀ (cs1 : CS) (u0 : Nat) (u1 : Nat) (u2 : Int32) (u3 : Int32) (u4 : Int32) (u5 : Int32) (u6 : Int32) (u7 : Int32) (u8 : Int32) (u9 : Int32) (u10 : Int32) (u11 : Int32), c_X4_join_L46 F lf_46 cs1 u0 u1 u2 u3 u4 u5 u6 u7 u8 u9 u10 u11 = some (cs9, r9) → kK cs ≤ kK cs1 → kM cs ≤ kM cs1 → ∀ (Gh H : Heap) (locs : List Loc) (ls : Array Slot), va_P (dC, dI) vwCl (cW cB cI cJ cZ cS cO b cs1) H → va_D A (cW cB cI cJ cZ cS cO b cs1) → va_S A s.heap Gh [] → Gh.size = b + kK cs1 → va_S A Gh H locs → lv_has ls 15 [(0, .ref (b + u0)), (1, .ref (b + u1)), (2, .int u2), (3, .int u3), (4, .int u4), (5, .int u5), (6, .int u6), (7, .int u7), (8, .int u8), (9, .int u9), (10, .int u10), (11, .int u11)] → W p l e (headSpec (wsOf yX4_join cX4_join 15 (some .int)) ({ frames := 6, cells := kK cs9 - kK cs, slots := kM cs9 - kM cs, locals := 60 * (6) } : Room)).room s m ([.ref (b + x0), .ref (b + x1), .int x2, .int x3, .int x4] : List Value).toArray below meth c H locs (kK cs1 - kK cs) (kM cs1 - kM cs) (MQ below (va_Qi (fun (x : Int32) (_ : Unit) => x = r9) (fun _ t_ => va_P (dC, dI) vwCl (cW cB cI cJ cZ cS cO b cs9) t_.heap ∧ va_D A (cW cB cI cJ cZ cS cO b cs9) ∧ b + kK cs9 ≤ t_.heap.size) A) ([.ref (b + x0), .ref (b + x1), .int x2, .int x3, .int x4] : List Value).toArray s (kK cs9 - kK cs) (kM cs9 - kM cs) A) (F0 m 46 ls []) := by
    intro lf_46
    induction lf_46 with
    | zero => intro cs1 u0 u1 u2 u3 u4 u5 u6 u7 u8 u9 u10 u11 h; cases (show (none : Option (CS × Int32)) = _ from h)
    | succ lf_46 ih_46 =>
      have B_208 : ∀ (cs1 : CS) (u0 : Nat) (u1 : Nat) (u2 : Int32) (u3 : Int32) (u4 : Int32) (u5 : Int32) (u6 : Int32) (u7 : Int32) (u8 : Int32) (u9 : Int32) (u10 : Int32) (u11 : Int32), c_X4_join_b208 F (c_X4_join_L46 F lf_46) cs1 u0 u1 u2 u3 u4 u5 u6 u7 u8 u9 u10 u11 = some (cs9, r9) → kK cs ≤ kK cs1 → kM cs ≤ kM cs1 → ∀ (Gh H : Heap) (locs : List Loc) (ls : Array Slot), va_P (dC, dI) vwCl (cW cB cI cJ cZ cS cO b cs1) H → va_D A (cW cB cI cJ cZ cS cO b cs1) → va_S A s.heap Gh [] → Gh.size = b + kK cs1 → va_S A Gh H locs → lv_has ls 15 [(0, .ref (b + u0)), (1, .ref (b + u1)), (2, .int u2), (3, .int u3), (4, .int u4), (5, .int u5), (6, .int u6), (7, .int u7), (8, .int u8), (9, .int u9), (10, .int u10), (11, .int u11)] → W p l e (headSpec (wsOf yX4_join cX4_join 15 (some .int)) ({ frames := 6, cells := kK cs9 - kK cs, slots := kM cs9 - kM cs, locals := 60 * (6) } : Room)).room s m ([.ref (b + x0), .ref (b + x1), .int x2, .int x3, .int x4] : List Value).toArray below meth c H locs (kK cs1 - kK cs) (kM cs1 - kM cs) (MQ below (va_Qi (fun (x : Int32) (_ : Unit) => x = r9) (fun _ t_ => va_P (dC, dI) vwCl (cW cB cI cJ cZ cS cO b cs9) t_.heap ∧ va_D A (cW cB cI cJ cZ cS cO b cs9) ∧ b + kK cs9 ≤ t_.heap.size) A) ([.ref (b + x0), .ref (b + x1), .int x2, .int x3, .int x4] : List Value).toArray s (kK cs9 - kK cs) (kM cs9 - kM cs) A) (F0 m 208 ls []) := by
        intro cs1 u0 u1 u2 u3 u4 u5 u6 u7 u8 u9 u10 u11 h hmk hmm Gh H locs ls hP hD hG hgz hS hl
        obtain ⟨kb9, mb9⟩ := mo_c_X4_join_b208 F (c_X4_join_L46 F lf_46) (mo_c_X4_join_L46 F lf_46) cs1 u0 u1 u2 u3 u4 u5 u6 u7 u8 u9 u10 u11 cs9 r9 h
        unfold c_X4_join_b208 at h
        refine lv_iinc (v := u11 + 1) (lv' := [(11, .int (u11 + 1)), (0, .ref (b + u0)), (1, .ref (b + u1)), (2, .int u2), (3, .int u3), (4, .int u4), (5, .int u5), (6, .int u6), (7, .int u7), (8, .int u8), (9, .int u9), (10, .int u10)]) hx hb dX4_join_208 hl (k := 11) rfl rfl (by decide) rfl (fun ls hl => ?_)
        refine lv_goto (tgt := 46) hx hb dX4_join_211 (by decide) ?_
        refine W_cnt (c2 := kK cs1 - kK cs) (n2 := kM cs1 - kM cs) (by omega) (by omega) ?_
        exact ih_46 cs1 u0 u1 u2 u3 u4 u5 u6 u7 u8 u9 u10 (u11 + 1) h (by omega) (by omega) _ _ _ _ hP hD hG (by omega) hS (lv_sub hl [1, 2, 3, 4, 5, 6, 7, 8, 9, 10, 11, 0] rfl)
      have B_205 : ∀ (cs1 : CS) (u0 : Nat) (u1 : Nat) (u2 : Int32) (u3 : Int32) (u4 : Int32) (u5 : Int32) (u6 : Int32) (u7 : Int32) (u8 : Int32) (u9 : Int32) (u10 : Int32) (u11 : Int32), c_X4_join_b205 F (c_X4_join_L46 F lf_46) cs1 u0 u1 u2 u3 u4 u5 u6 u7 u8 u9 u10 u11 = some (cs9, r9) → kK cs ≤ kK cs1 → kM cs ≤ kM cs1 → ∀ (Gh H : Heap) (locs : List Loc) (ls : Array Slot), va_P (dC, dI) vwCl (cW cB cI cJ cZ cS cO b cs1) H → va_D A (cW cB cI cJ cZ cS cO b cs1) → va_S A s.heap Gh [] → Gh.size = b + kK cs1 → va_S A Gh H locs → lv_has ls 15 [(0, .ref (b + u0)), (1, .ref (b + u1)), (2, .int u2), (3, .int u3), (4, .int u4), (5, .int u5), (6, .int u6), (7, .int u7), (8, .int u8), (9, .int u9), (10, .int u10), (11, .int u11)] → W p l e (headSpec (wsOf yX4_join cX4_join 15 (some .int)) ({ frames := 6, cells := kK cs9 - kK cs, slots := kM cs9 - kM cs, locals := 60 * (6) } : Room)).room s m ([.ref (b + x0), .ref (b + x1), .int x2, .int x3, .int x4] : List Value).toArray below meth c H locs (kK cs1 - kK cs) (kM cs1 - kM cs) (MQ below (va_Qi (fun (x : Int32) (_ : Unit) => x = r9) (fun _ t_ => va_P (dC, dI) vwCl (cW cB cI cJ cZ cS cO b cs9) t_.heap ∧ va_D A (cW cB cI cJ cZ cS cO b cs9) ∧ b + kK cs9 ≤ t_.heap.size) A) ([.ref (b + x0), .ref (b + x1), .int x2, .int x3, .int x4] : List Value).toArray s (kK cs9 - kK cs) (kM cs9 - kM cs) A) (F0 m 205 ls []) := by
        intro cs1 u0 u1 u2 u3 u4 u5 u6 u7 u8 u9 u10 u11 h hmk hmm Gh H locs ls hP hD hG hgz hS hl
        obtain ⟨kb9, mb9⟩ := mo_c_X4_join_b205 F (c_X4_join_L46 F lf_46) (mo_c_X4_join_L46 F lf_46) cs1 u0 u1 u2 u3 u4 u5 u6 u7 u8 u9 u10 u11 cs9 r9 h
        unfold c_X4_join_b205 at h
        refine lv_iinc (v := u10 + 1) (lv' := [(10, .int (u10 + 1)), (0, .ref (b + u0)), (1, .ref (b + u1)), (2, .int u2), (3, .int u3), (4, .int u4), (5, .int u5), (6, .int u6), (7, .int u7), (8, .int u8), (9, .int u9), (11, .int u11)]) hx hb dX4_join_205 hl (k := 10) rfl rfl (by decide) rfl (fun ls hl => ?_)
        refine W_cnt (c2 := kK cs1 - kK cs) (n2 := kM cs1 - kM cs) (by omega) (by omega) ?_
        exact B_208 cs1 u0 u1 u2 u3 u4 u5 u6 u7 u8 u9 (u10 + 1) u11 h (by omega) (by omega) _ _ _ _ hP hD hG (by omega) hS (lv_sub hl [1, 2, 3, 4, 5, 6, 7, 8, 9, 10, 0, 11] rfl)
      have B_194 : ∀ (cs1 : CS) (u0 : Nat) (u1 : Nat) (u2 : Int32) (u3 : Int32) (u4 : Int32) (u5 : Int32) (u6 : Int32) (u7 : Int32) (u8 : Int32) (u9 : Int32) (u10 : Int32) (u11 : Int32) (u13 : Int32), c_X4_join_b194 F (c_X4_join_L46 F lf_46) cs1 u0 u1 u2 u3 u4 u5 u6 u7 u8 u9 u10 u11 u13 = some (cs9, r9) → kK cs ≤ kK cs1 → kM cs ≤ kM cs1 → ∀ (Gh H : Heap) (locs : List Loc) (ls : Array Slot), va_P (dC, dI) vwCl (cW cB cI cJ cZ cS cO b cs1) H → va_D A (cW cB cI cJ cZ cS cO b cs1) → va_S A s.heap Gh [] → Gh.size = b + kK cs1 → va_S A Gh H locs → lv_has ls 15 [(0, .ref (b + u0)), (1, .ref (b + u1)), (2, .int u2), (3, .int u3), (4, .int u4), (5, .int u5), (6, .int u6), (7, .int u7), (8, .int u8), (9, .int u9), (10, .int u10), (11, .int u11), (13, .int u13)] → W p l e (headSpec (wsOf yX4_join cX4_join 15 (some .int)) ({ frames := 6, cells := kK cs9 - kK cs, slots := kM cs9 - kM cs, locals := 60 * (6) } : Room)).room s m ([.ref (b + x0), .ref (b + x1), .int x2, .int x3, .int x4] : List Value).toArray below meth c H locs (kK cs1 - kK cs) (kM cs1 - kM cs) (MQ below (va_Qi (fun (x : Int32) (_ : Unit) => x = r9) (fun _ t_ => va_P (dC, dI) vwCl (cW cB cI cJ cZ cS cO b cs9) t_.heap ∧ va_D A (cW cB cI cJ cZ cS cO b cs9) ∧ b + kK cs9 ≤ t_.heap.size) A) ([.ref (b + x0), .ref (b + x1), .int x2, .int x3, .int x4] : List Value).toArray s (kK cs9 - kK cs) (kM cs9 - kM cs) A) (F0 m 194 ls []) := by
        intro cs1 u0 u1 u2 u3 u4 u5 u6 u7 u8 u9 u10 u11 u13 h hmk hmm Gh H locs ls hP hD hG hgz hS hl
        obtain ⟨kb9, mb9⟩ := mo_c_X4_join_b194 F (c_X4_join_L46 F lf_46) (mo_c_X4_join_L46 F lf_46) cs1 u0 u1 u2 u3 u4 u5 u6 u7 u8 u9 u10 u11 u13 cs9 r9 h
        unfold c_X4_join_b194 at h
        refine lv_aload_n hx hb dX4_join_194 rfl (lv_at hl 0 rfl) ?_
        refine lv_iload hx hb dX4_join_195 (lv_at hl 12 rfl) ?_
        refine lv_iload hx hb dX4_join_197 (lv_at hl 5 rfl) ?_
        refine lv_iadd hx hb dX4_join_199 ?_
        refine lv_iload hx hb dX4_join_200 (lv_at hl 6 rfl) ?_
        replace h := ob h; obtain ⟨w_2, hw_2, h⟩ := h
        replace h := ob h; obtain ⟨cs_1, hv_1, h⟩ := h
        obtain ⟨qk_1, qm_1⟩ := mo_c_X4_blankOut F cs1 u0 (u13 + u5) u6 cs_1 hv_1
        obtain ⟨k9_1, m9_1⟩ := mo_c_X4_join_b205 F (c_X4_join_L46 F lf_46) (mo_c_X4_join_L46 F lf_46) cs_1 u0 u1 u2 u3 u4 u5 u6 u7 u8 u9 u10 u11 cs9 r9 h
        refine cavV (As := [.int (u13 + u5), .int u6]) hx hb hml hts hown hK hP hD hS hG hA (by omega) (by omega) hZ (X := 5) (by decide) rfl (ckE_some hw_2) (sa_X4_blankOut l dC dI cB cI cJ cZ cS cO b K V fz F cs1 u0 (u13 + u5) u6 cs_1 hv_1) (cw_X4_X4_blankOut hts (fr := 5) (Nat.le_of_ble_eq_true rfl) (Nat.le_of_ble_eq_true rfl)) rfl hl.1 (Nat.le_of_ble_eq_true rfl) ⟨by show kK cs1 - kK cs + (kK cs_1 - kK cs1) ≤ kK cs9 - kK cs; omega, by show kM cs1 - kM cs + (kM cs_1 - kM cs1) ≤ kM cs9 - kM cs; omega⟩ dX4_join_202 (fun H locs hP hD hG hgz hS => ?_)
        refine W_cnt (c2 := kK cs_1 - kK cs) (n2 := kM cs_1 - kM cs) (by omega) (by omega) ?_
        exact B_205 cs_1 u0 u1 u2 u3 u4 u5 u6 u7 u8 u9 u10 u11 h (by omega) (by omega) _ _ _ _ hP hD hG (by omega) hS (lv_sub hl [0, 1, 2, 3, 4, 5, 6, 7, 8, 9, 10, 11] rfl)
      have L_59 : ∀ (lf_59 : Nat), ∀ (cs1 : CS) (u0 : Nat) (u1 : Nat) (u2 : Int32) (u3 : Int32) (u4 : Int32) (u5 : Int32) (u6 : Int32) (u7 : Int32) (u8 : Int32) (u9 : Int32) (u10 : Int32) (u11 : Int32) (u12 : Int32) (u13 : Int32), c_X4_join_L59 F (c_X4_join_L46 F lf_46) lf_59 cs1 u0 u1 u2 u3 u4 u5 u6 u7 u8 u9 u10 u11 u12 u13 = some (cs9, r9) → kK cs ≤ kK cs1 → kM cs ≤ kM cs1 → ∀ (Gh H : Heap) (locs : List Loc) (ls : Array Slot), va_P (dC, dI) vwCl (cW cB cI cJ cZ cS cO b cs1) H → va_D A (cW cB cI cJ cZ cS cO b cs1) → va_S A s.heap Gh [] → Gh.size = b + kK cs1 → va_S A Gh H locs → lv_has ls 15 [(0, .ref (b + u0)), (1, .ref (b + u1)), (2, .int u2), (3, .int u3), (4, .int u4), (5, .int u5), (6, .int u6), (7, .int u7), (8, .int u8), (9, .int u9), (10, .int u10), (11, .int u11), (12, .int u12), (13, .int u13)] → W p l e (headSpec (wsOf yX4_join cX4_join 15 (some .int)) ({ frames := 6, cells := kK cs9 - kK cs, slots := kM cs9 - kM cs, locals := 60 * (6) } : Room)).room s m ([.ref (b + x0), .ref (b + x1), .int x2, .int x3, .int x4] : List Value).toArray below meth c H locs (kK cs1 - kK cs) (kM cs1 - kM cs) (MQ below (va_Qi (fun (x : Int32) (_ : Unit) => x = r9) (fun _ t_ => va_P (dC, dI) vwCl (cW cB cI cJ cZ cS cO b cs9) t_.heap ∧ va_D A (cW cB cI cJ cZ cS cO b cs9) ∧ b + kK cs9 ≤ t_.heap.size) A) ([.ref (b + x0), .ref (b + x1), .int x2, .int x3, .int x4] : List Value).toArray s (kK cs9 - kK cs) (kM cs9 - kM cs) A) (F0 m 59 ls []) := by
        intro lf_59
        induction lf_59 with
        | zero => intro cs1 u0 u1 u2 u3 u4 u5 u6 u7 u8 u9 u10 u11 u12 u13 h; cases (show (none : Option (CS × Int32)) = _ from h)
        | succ lf_59 ih_59 =>
          have B_143 : ∀ (cs1 : CS) (u0 : Nat) (u1 : Nat) (u2 : Int32) (u3 : Int32) (u4 : Int32) (u5 : Int32) (u6 : Int32) (u7 : Int32) (u8 : Int32) (u9 : Int32) (u11 : Int32) (u12 : Int32) (u13 : Int32) (y0 : Int32) (y1 : Int32), c_X4_join_b143 F (c_X4_join_L46 F lf_46) (c_X4_join_L59 F (c_X4_join_L46 F lf_46) lf_59) cs1 u0 u1 u2 u3 u4 u5 u6 u7 u8 u9 u11 u12 u13 y0 y1 = some (cs9, r9) → kK cs ≤ kK cs1 → kM cs ≤ kM cs1 → ∀ (Gh H : Heap) (locs : List Loc) (ls : Array Slot), va_P (dC, dI) vwCl (cW cB cI cJ cZ cS cO b cs1) H → va_D A (cW cB cI cJ cZ cS cO b cs1) → va_S A s.heap Gh [] → Gh.size = b + kK cs1 → va_S A Gh H locs → lv_has ls 15 [(0, .ref (b + u0)), (1, .ref (b + u1)), (2, .int u2), (3, .int u3), (4, .int u4), (5, .int u5), (6, .int u6), (7, .int u7), (8, .int u8), (9, .int u9), (11, .int u11), (12, .int u12), (13, .int u13)] → W p l e (headSpec (wsOf yX4_join cX4_join 15 (some .int)) ({ frames := 6, cells := kK cs9 - kK cs, slots := kM cs9 - kM cs, locals := 60 * (6) } : Room)).room s m ([.ref (b + x0), .ref (b + x1), .int x2, .int x3, .int x4] : List Value).toArray below meth c H locs (kK cs1 - kK cs) (kM cs1 - kM cs) (MQ below (va_Qi (fun (x : Int32) (_ : Unit) => x = r9) (fun _ t_ => va_P (dC, dI) vwCl (cW cB cI cJ cZ cS cO b cs9) t_.heap ∧ va_D A (cW cB cI cJ cZ cS cO b cs9) ∧ b + kK cs9 ≤ t_.heap.size) A) ([.ref (b + x0), .ref (b + x1), .int x2, .int x3, .int x4] : List Value).toArray s (kK cs9 - kK cs) (kM cs9 - kM cs) A) (F0 m 143 ls [.int y0, .int y1]) := by
            intro cs1 u0 u1 u2 u3 u4 u5 u6 u7 u8 u9 u11 u12 u13 y0 y1 h hmk hmm Gh H locs ls hP hD hG hgz hS hl
            obtain ⟨kb9, mb9⟩ := mo_c_X4_join_b143 F (c_X4_join_L46 F lf_46) (mo_c_X4_join_L46 F lf_46) (c_X4_join_L59 F (c_X4_join_L46 F lf_46) lf_59) (mo_c_X4_join_L59 F (c_X4_join_L46 F lf_46) (mo_c_X4_join_L46 F lf_46) lf_59) cs1 u0 u1 u2 u3 u4 u5 u6 u7 u8 u9 u11 u12 u13 y0 y1 cs9 r9 h
            unfold c_X4_join_b143 at h
            refine lv_iadd hx hb dX4_join_143 ?_
            refine lv_istore (lv' := [(10, .int (y1 + y0)), (0, .ref (b + u0)), (1, .ref (b + u1)), (2, .int u2), (3, .int u3), (4, .int u4), (5, .int u5), (6, .int u6), (7, .int u7), (8, .int u8), (9, .int u9), (11, .int u11), (12, .int u12), (13, .int u13)]) hx hb dX4_join_144 hl (by decide) rfl (fun ls hl => ?_)
            refine lv_iinc (v := u13 + 1) (lv' := [(13, .int (u13 + 1)), (10, .int (y1 + y0)), (0, .ref (b + u0)), (1, .ref (b + u1)), (2, .int u2), (3, .int u3), (4, .int u4), (5, .int u5), (6, .int u6), (7, .int u7), (8, .int u8), (9, .int u9), (11, .int u11), (12, .int u12)]) hx hb dX4_join_146 hl (k := 13) rfl rfl (by decide) rfl (fun ls hl => ?_)
            refine lv_goto (tgt := 59) hx hb dX4_join_149 (by decide) ?_
            refine W_cnt (c2 := kK cs1 - kK cs) (n2 := kM cs1 - kM cs) (by omega) (by omega) ?_
            exact ih_59 cs1 u0 u1 u2 u3 u4 u5 u6 u7 u8 u9 (y1 + y0) u11 u12 (u13 + 1) h (by omega) (by omega) _ _ _ _ hP hD hG (by omega) hS (lv_sub hl [2, 3, 4, 5, 6, 7, 8, 9, 10, 11, 1, 12, 13, 0] rfl)
          have B_116 : ∀ (cs1 : CS) (u0 : Nat) (u1 : Nat) (u2 : Int32) (u3 : Int32) (u4 : Int32) (u5 : Int32) (u6 : Int32) (u7 : Int32) (u8 : Int32) (u9 : Int32) (u10 : Int32) (u11 : Int32) (u12 : Int32) (u13 : Int32) (u14 : Int32), c_X4_join_b116 F (c_X4_join_L46 F lf_46) (c_X4_join_L59 F (c_X4_join_L46 F lf_46) lf_59) cs1 u0 u1 u2 u3 u4 u5 u6 u7 u8 u9 u10 u11 u12 u13 u14 = some (cs9, r9) → kK cs ≤ kK cs1 → kM cs ≤ kM cs1 → ∀ (Gh H : Heap) (locs : List Loc) (ls : Array Slot), va_P (dC, dI) vwCl (cW cB cI cJ cZ cS cO b cs1) H → va_D A (cW cB cI cJ cZ cS cO b cs1) → va_S A s.heap Gh [] → Gh.size = b + kK cs1 → va_S A Gh H locs → lv_has ls 15 [(0, .ref (b + u0)), (1, .ref (b + u1)), (2, .int u2), (3, .int u3), (4, .int u4), (5, .int u5), (6, .int u6), (7, .int u7), (8, .int u8), (9, .int u9), (10, .int u10), (11, .int u11), (12, .int u12), (13, .int u13), (14, .int u14)] → W p l e (headSpec (wsOf yX4_join cX4_join 15 (some .int)) ({ frames := 6, cells := kK cs9 - kK cs, slots := kM cs9 - kM cs, locals := 60 * (6) } : Room)).room s m ([.ref (b + x0), .ref (b + x1), .int x2, .int x3, .int x4] : List Value).toArray below meth c H locs (kK cs1 - kK cs) (kM cs1 - kM cs) (MQ below (va_Qi (fun (x : Int32) (_ : Unit) => x = r9) (fun _ t_ => va_P (dC, dI) vwCl (cW cB cI cJ cZ cS cO b cs9) t_.heap ∧ va_D A (cW cB cI cJ cZ cS cO b cs9) ∧ b + kK cs9 ≤ t_.heap.size) A) ([.ref (b + x0), .ref (b + x1), .int x2, .int x3, .int x4] : List Value).toArray s (kK cs9 - kK cs) (kM cs9 - kM cs) A) (F0 m 116 ls []) := by
            intro cs1 u0 u1 u2 u3 u4 u5 u6 u7 u8 u9 u10 u11 u12 u13 u14 h hmk hmm Gh H locs ls hP hD hG hgz hS hl
            obtain ⟨kb9, mb9⟩ := mo_c_X4_join_b116 F (c_X4_join_L46 F lf_46) (mo_c_X4_join_L46 F lf_46) (c_X4_join_L59 F (c_X4_join_L46 F lf_46) lf_59) (mo_c_X4_join_L59 F (c_X4_join_L46 F lf_46) (mo_c_X4_join_L46 F lf_46) lf_59) cs1 u0 u1 u2 u3 u4 u5 u6 u7 u8 u9 u10 u11 u12 u13 u14 cs9 r9 h
            unfold c_X4_join_b116 at h
            refine lv_iload hx hb dX4_join_116 (lv_at hl 10 rfl) ?_
            refine lv_aload_n hx hb dX4_join_118 rfl (lv_at hl 0 rfl) ?_
            replace h := ob h; obtain ⟨v_3, hv_3, h⟩ := h
            refine fg_X4_15 hx hb hts hown hK hP hv_3 dX4_join_119 ?_
            refine lv_aload_n hx hb dX4_join_122 rfl (lv_at hl 1 rfl) ?_
            replace h := ob h; obtain ⟨v_4, hv_4, h⟩ := h
            refine fg_X4_219 hx hb hts hown hK hP hv_4 dX4_join_123 ?_
            refine lv_aload_n hx hb dX4_join_126 rfl (lv_at hl 0 rfl) ?_
            replace h := ob h; obtain ⟨v_5, hv_5, h⟩ := h
            refine fg_X4_19 hx hb hts hown hK hP hv_5 dX4_join_127 ?_
            refine lv_iload hx hb dX4_join_130 (lv_at hl 14 rfl) ?_
            replace h := ob h; obtain ⟨i_6, hi_6, h⟩ := h
            subst hi_6
            replace h := ob h; obtain ⟨i_8, hi_8, h⟩ := h
            subst hi_8
            replace h := ob h; obtain ⟨w_9, hw_9, h⟩ := h
            replace h := ob h; obtain ⟨z_7, hv_7, h⟩ := h
            obtain ⟨qk_7, qm_7⟩ := k_of (mo_c_X1_compute F cs1 i_8 v_4 i_6 u14 z_7.1 z_7.2 hv_7)
            refine cbvI (As := [.int v_4, .ref (b + i_6), .int u14]) hx hb hml hts hown hK hP hD hS hG hA (by omega) (by omega) hZ (X := 2) (by decide) rfl (ckE_some hw_9) (sc_X1_compute l dC dI cB cI cJ cZ cS cO b K V fz F cs1 i_8 v_4 i_6 u14 z_7.1 z_7.2 hv_7) (cw_X4_X1_compute hts (fr := 2) (Nat.le_of_ble_eq_true rfl) (Nat.le_of_ble_eq_true rfl)) rfl hl.1 (Nat.le_of_ble_eq_true rfl) ⟨by show kK cs1 - kK cs ≤ kK cs9 - kK cs; omega, by show kM cs1 - kM cs ≤ kM cs9 - kM cs; omega⟩ dX4_join_132 (fun H locs hP hD hG hgz hS => ?_)
            refine lv_if_eq (tgt := 142) hx hb dX4_join_135 (by decide) (fun c_10 => ?_) (fun c_10 => ?_)
            · skip
              replace h := (if_pos c_10).symm.trans h
              refine lv_iconst (v := 0) hx hb dX4_join_142 (by decide) ?_
              refine W_cnt (c2 := kK z_7.1 - kK cs) (n2 := kM z_7.1 - kM cs) (by omega) (by omega) ?_
              exact B_143 z_7.1 u0 u1 u2 u3 u4 u5 u6 u7 u8 u9 u11 u12 u13 0 u10 h (by omega) (by omega) _ _ _ _ hP hD hG (by omega) hS (lv_sub hl [0, 1, 2, 3, 4, 5, 6, 7, 8, 9, 11, 12, 13] rfl)
            · skip
              replace h := (if_neg c_10).symm.trans h
              refine lv_iconst (v := 1) hx hb dX4_join_138 (by decide) ?_
              refine lv_goto (tgt := 143) hx hb dX4_join_139 (by decide) ?_
              refine W_cnt (c2 := kK z_7.1 - kK cs) (n2 := kM z_7.1 - kM cs) (by omega) (by omega) ?_
              exact B_143 z_7.1 u0 u1 u2 u3 u4 u5 u6 u7 u8 u9 u11 u12 u13 1 u10 h (by omega) (by omega) _ _ _ _ hP hD hG (by omega) hS (lv_sub hl [0, 1, 2, 3, 4, 5, 6, 7, 8, 9, 11, 12, 13] rfl)
          have B_94 : ∀ (cs1 : CS) (u0 : Nat) (u1 : Nat) (u2 : Int32) (u3 : Int32) (u4 : Int32) (u5 : Int32) (u6 : Int32) (u7 : Int32) (u8 : Int32) (u9 : Int32) (u10 : Int32) (u11 : Int32) (u12 : Int32) (u13 : Int32) (u14 : Int32), c_X4_join_b94 F (c_X4_join_L46 F lf_46) (c_X4_join_L59 F (c_X4_join_L46 F lf_46) lf_59) cs1 u0 u1 u2 u3 u4 u5 u6 u7 u8 u9 u10 u11 u12 u13 u14 = some (cs9, r9) → kK cs ≤ kK cs1 → kM cs ≤ kM cs1 → ∀ (Gh H : Heap) (locs : List Loc) (ls : Array Slot), va_P (dC, dI) vwCl (cW cB cI cJ cZ cS cO b cs1) H → va_D A (cW cB cI cJ cZ cS cO b cs1) → va_S A s.heap Gh [] → Gh.size = b + kK cs1 → va_S A Gh H locs → lv_has ls 15 [(0, .ref (b + u0)), (1, .ref (b + u1)), (2, .int u2), (3, .int u3), (4, .int u4), (5, .int u5), (6, .int u6), (7, .int u7), (8, .int u8), (9, .int u9), (10, .int u10), (11, .int u11), (12, .int u12), (13, .int u13), (14, .int u14)] → W p l e (headSpec (wsOf yX4_join cX4_join 15 (some .int)) ({ frames := 6, cells := kK cs9 - kK cs, slots := kM cs9 - kM cs, locals := 60 * (6) } : Room)).room s m ([.ref (b + x0), .ref (b + x1), .int x2, .int x3, .int x4] : List Value).toArray below meth c H locs (kK cs1 - kK cs) (kM cs1 - kM cs) (MQ below (va_Qi (fun (x : Int32) (_ : Unit) => x = r9) (fun _ t_ => va_P (dC, dI) vwCl (cW cB cI cJ cZ cS cO b cs9) t_.heap ∧ va_D A (cW cB cI cJ cZ cS cO b cs9) ∧ b + kK cs9 ≤ t_.heap.size) A) ([.ref (b + x0), .ref (b + x1), .int x2, .int x3, .int x4] : List Value).toArray s (kK cs9 - kK cs) (kM cs9 - kM cs) A) (F0 m 94 ls []) := by
            intro cs1 u0 u1 u2 u3 u4 u5 u6 u7 u8 u9 u10 u11 u12 u13 u14 h hmk hmm Gh H locs ls hP hD hG hgz hS hl
            obtain ⟨kb9, mb9⟩ := mo_c_X4_join_b94 F (c_X4_join_L46 F lf_46) (mo_c_X4_join_L46 F lf_46) (c_X4_join_L59 F (c_X4_join_L46 F lf_46) lf_59) (mo_c_X4_join_L59 F (c_X4_join_L46 F lf_46) (mo_c_X4_join_L46 F lf_46) lf_59) cs1 u0 u1 u2 u3 u4 u5 u6 u7 u8 u9 u10 u11 u12 u13 u14 cs9 r9 h
            unfold c_X4_join_b94 at h
            refine lv_aload_n hx hb dX4_join_94 rfl (lv_at hl 0 rfl) ?_
            replace h := ob h; obtain ⟨v_11, hv_11, h⟩ := h
            refine fg_X4_19 hx hb hts hown hK hP hv_11 dX4_join_95 ?_
            refine lv_iload hx hb dX4_join_98 (lv_at hl 8 rfl) ?_
            refine lv_iload hx hb dX4_join_100 (lv_at hl 13 rfl) ?_
            refine lv_iload hx hb dX4_join_102 (lv_at hl 6 rfl) ?_
            refine lv_imul hx hb dX4_join_104 ?_
            refine lv_iadd hx hb dX4_join_105 ?_
            refine lv_iload hx hb dX4_join_106 (lv_at hl 14 rfl) ?_
            refine lv_iload hx hb dX4_join_108 (lv_at hl 5 rfl) ?_
            refine lv_iadd hx hb dX4_join_110 ?_
            refine lv_iload hx hb dX4_join_111 (lv_at hl 6 rfl) ?_
            replace h := ob h; obtain ⟨i_13, hi_13, h⟩ := h
            subst hi_13
            replace h := ob h; obtain ⟨w_14, hw_14, h⟩ := h
            replace h := ob h; obtain ⟨cs_12, hv_12, h⟩ := h
            obtain ⟨qk_12, qm_12⟩ := mo_c_X8_copy F cs1 i_13 (u8 + (u13 * u6)) (u14 + u5) u6 cs_12 hv_12
            obtain ⟨k9_12, m9_12⟩ := mo_c_X4_join_b116 F (c_X4_join_L46 F lf_46) (mo_c_X4_join_L46 F lf_46) (c_X4_join_L59 F (c_X4_join_L46 F lf_46) lf_59) (mo_c_X4_join_L59 F (c_X4_join_L46 F lf_46) (mo_c_X4_join_L46 F lf_46) lf_59) cs_12 u0 u1 u2 u3 u4 u5 u6 u7 u8 u9 u10 u11 u12 u13 u14 cs9 r9 h
            refine cavV (As := [.int (u8 + (u13 * u6)), .int (u14 + u5), .int u6]) hx hb hml hts hown hK hP hD hS hG hA (by omega) (by omega) hZ (X := 9) (by decide) rfl (ckE_some hw_14) (sa_X8_copy l dC dI cB cI cJ cZ cS cO b K V fz F cs1 i_13 (u8 + (u13 * u6)) (u14 + u5) u6 cs_12 hv_12) (cw_X4_X8_copy hts (fr := 4) (Nat.le_of_ble_eq_true rfl) (Nat.le_of_ble_eq_true rfl)) rfl hl.1 (Nat.le_of_ble_eq_true rfl) ⟨by show kK cs1 - kK cs + (kK cs_12 - kK cs1) ≤ kK cs9 - kK cs; omega, by show kM cs1 - kM cs + (kM cs_12 - kM cs1) ≤ kM cs9 - kM cs; omega⟩ dX4_join_113 (fun H locs hP hD hG hgz hS => ?_)
            refine W_cnt (c2 := kK cs_12 - kK cs) (n2 := kM cs_12 - kM cs) (by omega) (by omega) ?_
            exact B_116 cs_12 u0 u1 u2 u3 u4 u5 u6 u7 u8 u9 u10 u11 u12 u13 u14 h (by omega) (by omega) _ _ _ _ hP hD hG (by omega) hS (lv_sub hl [0, 1, 2, 3, 4, 5, 6, 7, 8, 9, 10, 11, 12, 13, 14] rfl)
          intro cs1 u0 u1 u2 u3 u4 u5 u6 u7 u8 u9 u10 u11 u12 u13 h hmk hmm Gh H locs ls hP hD hG hgz hS hl
          obtain ⟨kb9, mb9⟩ := mo_c_X4_join_L59 F (c_X4_join_L46 F lf_46) (mo_c_X4_join_L46 F lf_46) (lf_59 + 1) cs1 u0 u1 u2 u3 u4 u5 u6 u7 u8 u9 u10 u11 u12 u13 cs9 r9 h
          rw [c_X4_join_L59] at h
          refine lv_iload hx hb dX4_join_59 (lv_at hl 13 rfl) ?_
          refine lv_iload hx hb dX4_join_61 (lv_at hl 4 rfl) ?_
          refine lv_icmp_ge (tgt := 152) hx hb dX4_join_63 (by decide) (fun c_15 => ?_) (fun c_15 => ?_)
          · skip
            replace h := (if_pos c_15).symm.trans h
            refine lv_aload_n hx hb dX4_join_152 rfl (lv_at hl 1 rfl) ?_
            replace h := ob h; obtain ⟨v_16, hv_16, h⟩ := h
            refine fg_X4_222 hx hb hts hown hK hP hv_16 dX4_join_153 ?_
            refine lv_if_eq (tgt := 208) hx hb dX4_join_156 (by decide) (fun c_17 => ?_) (fun c_17 => ?_)
            · skip
              replace h := (if_pos c_17).symm.trans h
              refine W_cnt (c2 := kK cs1 - kK cs) (n2 := kM cs1 - kM cs) (by omega) (by omega) ?_
              exact B_208 cs1 u0 u1 u2 u3 u4 u5 u6 u7 u8 u9 u10 u11 h (by omega) (by omega) _ _ _ _ hP hD hG (by omega) hS (lv_sub hl [0, 1, 2, 3, 4, 5, 6, 7, 8, 9, 10, 11] rfl)
            · skip
              replace h := (if_neg c_17).symm.trans h
              refine lv_iload hx hb dX4_join_159 (lv_at hl 10 rfl) ?_
              refine lv_iload hx hb dX4_join_161 (lv_at hl 12 rfl) ?_
              refine lv_icmp_ne (tgt := 208) hx hb dX4_join_163 (by decide) (fun c_18 => ?_) (fun c_18 => ?_)
              · skip
                replace h := (if_neg c_18).symm.trans h
                refine W_cnt (c2 := kK cs1 - kK cs) (n2 := kM cs1 - kM cs) (by omega) (by omega) ?_
                exact B_208 cs1 u0 u1 u2 u3 u4 u5 u6 u7 u8 u9 u10 u11 h (by omega) (by omega) _ _ _ _ hP hD hG (by omega) hS (lv_sub hl [0, 1, 2, 3, 4, 5, 6, 7, 8, 9, 10, 11] rfl)
              · skip
                replace h := (if_pos c_18).symm.trans h
                refine lv_iload hx hb dX4_join_166 (lv_at hl 9 rfl) ?_
                refine lv_iload hx hb dX4_join_168 (lv_at hl 10 rfl) ?_
                refine lv_iload hx hb dX4_join_170 (lv_at hl 7 rfl) ?_
                refine lv_imul hx hb dX4_join_172 ?_
                refine lv_iadd hx hb dX4_join_173 ?_
                refine lv_istore (lv' := [(13, .int (u9 + (u10 * u7))), (0, .ref (b + u0)), (1, .ref (b + u1)), (2, .int u2), (3, .int u3), (4, .int u4), (5, .int u5), (6, .int u6), (7, .int u7), (8, .int u8), (9, .int u9), (10, .int u10), (11, .int u11), (12, .int u12)]) hx hb dX4_join_174 hl (by decide) rfl (fun ls hl => ?_)
                refine lv_aload_n hx hb dX4_join_176 rfl (lv_at hl 1 rfl) ?_
                replace h := ob h; obtain ⟨v_19, hv_19, h⟩ := h
                refine fg_X4_19 hx hb hts hown hK hP hv_19 dX4_join_177 ?_
                refine lv_iload_n hx hb dX4_join_180 rfl (lv_at hl 3 rfl) ?_
                refine lv_iload hx hb dX4_join_181 (lv_at hl 12 rfl) ?_
                refine lv_iload hx hb dX4_join_183 (lv_at hl 6 rfl) ?_
                refine lv_imul hx hb dX4_join_185 ?_
                refine lv_iadd hx hb dX4_join_186 ?_
                refine lv_iload hx hb dX4_join_187 (lv_at hl 0 rfl) ?_
                refine lv_iload hx hb dX4_join_189 (lv_at hl 6 rfl) ?_
                replace h := ob h; obtain ⟨i_21, hi_21, h⟩ := h
                subst hi_21
                replace h := ob h; obtain ⟨w_22, hw_22, h⟩ := h
                replace h := ob h; obtain ⟨cs_20, hv_20, h⟩ := h
                obtain ⟨qk_20, qm_20⟩ := mo_c_X8_copy F cs1 i_21 (u2 + (u11 * u5)) (u9 + (u10 * u7)) u5 cs_20 hv_20
                obtain ⟨k9_20, m9_20⟩ := mo_c_X4_join_b194 F (c_X4_join_L46 F lf_46) (mo_c_X4_join_L46 F lf_46) cs_20 u0 u1 u2 u3 u4 u5 u6 u7 u8 u9 u10 u11 (u9 + (u10 * u7)) cs9 r9 h
                refine cavV (As := [.int (u2 + (u11 * u5)), .int (u9 + (u10 * u7)), .int u5]) hx hb hml hts hown hK hP hD hS hG hA (by omega) (by omega) hZ (X := 9) (by decide) rfl (ckE_some hw_22) (sa_X8_copy l dC dI cB cI cJ cZ cS cO b K V fz F cs1 i_21 (u2 + (u11 * u5)) (u9 + (u10 * u7)) u5 cs_20 hv_20) (cw_X4_X8_copy hts (fr := 4) (Nat.le_of_ble_eq_true rfl) (Nat.le_of_ble_eq_true rfl)) rfl hl.1 (Nat.le_of_ble_eq_true rfl) ⟨by show kK cs1 - kK cs + (kK cs_20 - kK cs1) ≤ kK cs9 - kK cs; omega, by show kM cs1 - kM cs + (kM cs_20 - kM cs1) ≤ kM cs9 - kM cs; omega⟩ dX4_join_191 (fun H locs hP hD hG hgz hS => ?_)
                refine W_cnt (c2 := kK cs_20 - kK cs) (n2 := kM cs_20 - kM cs) (by omega) (by omega) ?_
                exact B_194 cs_20 u0 u1 u2 u3 u4 u5 u6 u7 u8 u9 u10 u11 (u9 + (u10 * u7)) h (by omega) (by omega) _ _ _ _ hP hD hG (by omega) hS (lv_sub hl [1, 2, 3, 4, 5, 6, 7, 8, 9, 10, 11, 12, 0] rfl)
          · skip
            replace h := (if_neg c_15).symm.trans h
            refine lv_iload hx hb dX4_join_66 (lv_at hl 9 rfl) ?_
            refine lv_iload hx hb dX4_join_68 (lv_at hl 10 rfl) ?_
            refine lv_iload hx hb dX4_join_70 (lv_at hl 7 rfl) ?_
            refine lv_imul hx hb dX4_join_72 ?_
            refine lv_iadd hx hb dX4_join_73 ?_
            refine lv_istore (lv' := [(14, .int (u9 + (u10 * u7))), (0, .ref (b + u0)), (1, .ref (b + u1)), (2, .int u2), (3, .int u3), (4, .int u4), (5, .int u5), (6, .int u6), (7, .int u7), (8, .int u8), (9, .int u9), (10, .int u10), (11, .int u11), (12, .int u12), (13, .int u13)]) hx hb dX4_join_74 hl (by decide) rfl (fun ls hl => ?_)
            refine lv_aload_n hx hb dX4_join_76 rfl (lv_at hl 1 rfl) ?_
            replace h := ob h; obtain ⟨v_23, hv_23, h⟩ := h
            refine fg_X4_19 hx hb hts hown hK hP hv_23 dX4_join_77 ?_
            refine lv_iload_n hx hb dX4_join_80 rfl (lv_at hl 3 rfl) ?_
            refine lv_iload hx hb dX4_join_81 (lv_at hl 12 rfl) ?_
            refine lv_iload hx hb dX4_join_83 (lv_at hl 6 rfl) ?_
            refine lv_imul hx hb dX4_join_85 ?_
            refine lv_iadd hx hb dX4_join_86 ?_
            refine lv_iload hx hb dX4_join_87 (lv_at hl 0 rfl) ?_
            refine lv_iload hx hb dX4_join_89 (lv_at hl 6 rfl) ?_
            replace h := ob h; obtain ⟨i_25, hi_25, h⟩ := h
            subst hi_25
            replace h := ob h; obtain ⟨w_26, hw_26, h⟩ := h
            replace h := ob h; obtain ⟨cs_24, hv_24, h⟩ := h
            obtain ⟨qk_24, qm_24⟩ := mo_c_X8_copy F cs1 i_25 (u2 + (u11 * u5)) (u9 + (u10 * u7)) u5 cs_24 hv_24
            obtain ⟨k9_24, m9_24⟩ := mo_c_X4_join_b94 F (c_X4_join_L46 F lf_46) (mo_c_X4_join_L46 F lf_46) (c_X4_join_L59 F (c_X4_join_L46 F lf_46) lf_59) (mo_c_X4_join_L59 F (c_X4_join_L46 F lf_46) (mo_c_X4_join_L46 F lf_46) lf_59) cs_24 u0 u1 u2 u3 u4 u5 u6 u7 u8 u9 u10 u11 u12 u13 (u9 + (u10 * u7)) cs9 r9 h
            refine cavV (As := [.int (u2 + (u11 * u5)), .int (u9 + (u10 * u7)), .int u5]) hx hb hml hts hown hK hP hD hS hG hA (by omega) (by omega) hZ (X := 9) (by decide) rfl (ckE_some hw_26) (sa_X8_copy l dC dI cB cI cJ cZ cS cO b K V fz F cs1 i_25 (u2 + (u11 * u5)) (u9 + (u10 * u7)) u5 cs_24 hv_24) (cw_X4_X8_copy hts (fr := 4) (Nat.le_of_ble_eq_true rfl) (Nat.le_of_ble_eq_true rfl)) rfl hl.1 (Nat.le_of_ble_eq_true rfl) ⟨by show kK cs1 - kK cs + (kK cs_24 - kK cs1) ≤ kK cs9 - kK cs; omega, by show kM cs1 - kM cs + (kM cs_24 - kM cs1) ≤ kM cs9 - kM cs; omega⟩ dX4_join_91 (fun H locs hP hD hG hgz hS => ?_)
            refine W_cnt (c2 := kK cs_24 - kK cs) (n2 := kM cs_24 - kM cs) (by omega) (by omega) ?_
            exact B_94 cs_24 u0 u1 u2 u3 u4 u5 u6 u7 u8 u9 u10 u11 u12 u13 (u9 + (u10 * u7)) h (by omega) (by omega) _ _ _ _ hP hD hG (by omega) hS (lv_sub hl [1, 2, 3, 4, 5, 6, 7, 8, 9, 10, 11, 12, 13, 14, 0] rfl)
      intro cs1 u0 u1 u2 u3 u4 u5 u6 u7 u8 u9 u10 u11 h hmk hmm Gh H locs ls hP hD hG hgz hS hl
      obtain ⟨kb9, mb9⟩ := mo_c_X4_join_L46 F (lf_46 + 1) cs1 u0 u1 u2 u3 u4 u5 u6 u7 u8 u9 u10 u11 cs9 r9 h
      rw [c_X4_join_L46] at h
      refine lv_iload hx hb dX4_join_46 (lv_at hl 11 rfl) ?_
      refine lv_iload_n hx hb dX4_join_48 rfl (lv_at hl 3 rfl) ?_
      refine lv_icmp_ge (tgt := 214) hx hb dX4_join_49 (by decide) (fun c_27 => ?_) (fun c_27 => ?_)
      · skip
        replace h := (if_pos c_27).symm.trans h
        refine lv_aload_n hx hb dX4_join_214 rfl (lv_at hl 0 rfl) ?_
        replace h := ob h; obtain ⟨v_28, hv_28, h⟩ := h
        refine fg_X4_19 hx hb hts hown hK hP hv_28 dX4_join_215 ?_
        refine lv_iload hx hb dX4_join_218 (lv_at hl 9 rfl) ?_
        refine lv_iload_n hx hb dX4_join_220 rfl (lv_at hl 2 rfl) ?_
        refine lv_iload hx hb dX4_join_221 (lv_at hl 10 rfl) ?_
        refine lv_iload hx hb dX4_join_223 (lv_at hl 7 rfl) ?_
        refine lv_imul hx hb dX4_join_225 ?_
        replace h := ob h; obtain ⟨i_30, hi_30, h⟩ := h
        subst hi_30
        replace h := ob h; obtain ⟨w_31, hw_31, h⟩ := h
        replace h := ob h; obtain ⟨cs_29, hv_29, h⟩ := h
        obtain ⟨qk_29, qm_29⟩ := mo_c_X8_copy F cs1 i_30 u9 u2 (u10 * u7) cs_29 hv_29
        obtain ⟨k9_29, m9_29⟩ := mo_c_X4_join_b229 F cs_29 u10 cs9 r9 h
        refine cavV (As := [.int u9, .int u2, .int (u10 * u7)]) hx hb hml hts hown hK hP hD hS hG hA (by omega) (by omega) hZ (X := 9) (by decide) rfl (ckE_some hw_31) (sa_X8_copy l dC dI cB cI cJ cZ cS cO b K V fz F cs1 i_30 u9 u2 (u10 * u7) cs_29 hv_29) (cw_X4_X8_copy hts (fr := 4) (Nat.le_of_ble_eq_true rfl) (Nat.le_of_ble_eq_true rfl)) rfl hl.1 (Nat.le_of_ble_eq_true rfl) ⟨by show kK cs1 - kK cs + (kK cs_29 - kK cs1) ≤ kK cs9 - kK cs; omega, by show kM cs1 - kM cs + (kM cs_29 - kM cs1) ≤ kM cs9 - kM cs; omega⟩ dX4_join_226 (fun H locs hP hD hG hgz hS => ?_)
        refine W_cnt (c2 := kK cs_29 - kK cs) (n2 := kM cs_29 - kM cs) (by omega) (by omega) ?_
        exact B_229 cs_29 u10 h (by omega) (by omega) _ _ _ _ hP hD hG (by omega) hS (lv_sub hl [10] rfl)
      · skip
        replace h := (if_neg c_27).symm.trans h
        refine lv_iload hx hb dX4_join_52 (lv_at hl 10 rfl) ?_
        refine lv_istore (lv' := [(12, .int u10), (0, .ref (b + u0)), (1, .ref (b + u1)), (2, .int u2), (3, .int u3), (4, .int u4), (5, .int u5), (6, .int u6), (7, .int u7), (8, .int u8), (9, .int u9), (10, .int u10), (11, .int u11)]) hx hb dX4_join_54 hl (by decide) rfl (fun ls hl => ?_)
        refine lv_iconst (v := 0) hx hb dX4_join_56 (by decide) ?_
        refine lv_istore (lv' := [(13, .int 0), (12, .int u10), (0, .ref (b + u0)), (1, .ref (b + u1)), (2, .int u2), (3, .int u3), (4, .int u4), (5, .int u5), (6, .int u6), (7, .int u7), (8, .int u8), (9, .int u9), (10, .int u10), (11, .int u11)]) hx hb dX4_join_57 hl (by decide) rfl (fun ls hl => ?_)
        refine W_cnt (c2 := kK cs1 - kK cs) (n2 := kM cs1 - kM cs) (by omega) (by omega) ?_
        exact L_59 F cs1 u0 u1 u2 u3 u4 u5 u6 u7 u8 u9 u10 u11 u10 0 h (by omega) (by omega) _ _ _ _ hP hD hG (by omega) hS (lv_sub hl [2, 3, 4, 5, 6, 7, 8, 9, 10, 11, 12, 13, 1, 0] rfl)
  have h := hf
  unfold c_X4_join at h
  refine W_cnt (c2 := kK cs - kK cs) (n2 := kM cs - kM cs) (by omega) (by omega) ?_
  refine lv_aload_n hx hb dX4_join_0 rfl (lv_at hl 1 rfl) ?_
  replace h := ob h; obtain ⟨v_32, hv_32, h⟩ := h
  refine fg_X4_178 hx hb hts hown hK hP hv_32 dX4_join_1 ?_
  refine lv_istore (lv' := [(5, .int v_32), (0, .ref (b + x0)), (1, .ref (b + x1)), (2, .int x2), (3, .int x3), (4, .int x4)]) hx hb dX4_join_4 hl (by decide) rfl (fun ls hl => ?_)
  refine lv_aload_n hx hb dX4_join_6 rfl (lv_at hl 2 rfl) ?_
  replace h := ob h; obtain ⟨v_33, hv_33, h⟩ := h
  refine fg_X4_212 hx hb hts hown hK hP hv_33 dX4_join_7 ?_
  replace h := ob h; obtain ⟨i_34, hi_34, h⟩ := h
  subst hi_34
  replace h := ob h; obtain ⟨v_35, hv_35, h⟩ := h
  refine fg_X4_29 hx hb hts hown hK hP hv_35 dX4_join_10 ?_
  refine lv_istore (lv' := [(6, .int v_35), (5, .int v_32), (0, .ref (b + x0)), (1, .ref (b + x1)), (2, .int x2), (3, .int x3), (4, .int x4)]) hx hb dX4_join_13 hl (by decide) rfl (fun ls hl => ?_)
  refine lv_iload hx hb dX4_join_15 (lv_at hl 1 rfl) ?_
  refine lv_iload hx hb dX4_join_17 (lv_at hl 0 rfl) ?_
  refine lv_iadd hx hb dX4_join_19 ?_
  refine lv_istore (lv' := [(7, .int (v_32 + v_35)), (6, .int v_35), (5, .int v_32), (0, .ref (b + x0)), (1, .ref (b + x1)), (2, .int x2), (3, .int x3), (4, .int x4)]) hx hb dX4_join_20 hl (by decide) rfl (fun ls hl => ?_)
  refine lv_iload_n hx hb dX4_join_22 rfl (lv_at hl 5 rfl) ?_
  refine lv_iload_n hx hb dX4_join_23 rfl (lv_at hl 6 rfl) ?_
  refine lv_iload hx hb dX4_join_24 (lv_at hl 2 rfl) ?_
  refine lv_imul hx hb dX4_join_26 ?_
  refine lv_iadd hx hb dX4_join_27 ?_
  refine lv_istore (lv' := [(8, .int (x2 + (x3 * v_32))), (7, .int (v_32 + v_35)), (6, .int v_35), (5, .int v_32), (0, .ref (b + x0)), (1, .ref (b + x1)), (2, .int x2), (3, .int x3), (4, .int x4)]) hx hb dX4_join_28 hl (by decide) rfl (fun ls hl => ?_)
  refine lv_iload hx hb dX4_join_30 (lv_at hl 0 rfl) ?_
  refine lv_iload hx hb dX4_join_32 (lv_at hl 8 rfl) ?_
  refine lv_iload hx hb dX4_join_34 (lv_at hl 2 rfl) ?_
  refine lv_imul hx hb dX4_join_36 ?_
  refine lv_iadd hx hb dX4_join_37 ?_
  refine lv_istore (lv' := [(9, .int ((x2 + (x3 * v_32)) + (x4 * v_35))), (8, .int (x2 + (x3 * v_32))), (7, .int (v_32 + v_35)), (6, .int v_35), (5, .int v_32), (0, .ref (b + x0)), (1, .ref (b + x1)), (2, .int x2), (3, .int x3), (4, .int x4)]) hx hb dX4_join_38 hl (by decide) rfl (fun ls hl => ?_)
  refine lv_iconst (v := 0) hx hb dX4_join_40 (by decide) ?_
  refine lv_istore (lv' := [(10, .int 0), (9, .int ((x2 + (x3 * v_32)) + (x4 * v_35))), (8, .int (x2 + (x3 * v_32))), (7, .int (v_32 + v_35)), (6, .int v_35), (5, .int v_32), (0, .ref (b + x0)), (1, .ref (b + x1)), (2, .int x2), (3, .int x3), (4, .int x4)]) hx hb dX4_join_41 hl (by decide) rfl (fun ls hl => ?_)
  refine lv_iconst (v := 0) hx hb dX4_join_43 (by decide) ?_
  refine lv_istore (lv' := [(11, .int 0), (10, .int 0), (9, .int ((x2 + (x3 * v_32)) + (x4 * v_35))), (8, .int (x2 + (x3 * v_32))), (7, .int (v_32 + v_35)), (6, .int v_35), (5, .int v_32), (0, .ref (b + x0)), (1, .ref (b + x1)), (2, .int x2), (3, .int x3), (4, .int x4)]) hx hb dX4_join_44 hl (by decide) rfl (fun ls hl => ?_)
  refine W_cnt (c2 := kK cs - kK cs) (n2 := kM cs - kM cs) (by omega) (by omega) ?_
  exact L_46 F cs x0 x1 x2 x3 x4 v_32 v_35 (v_32 + v_35) (x2 + (x3 * v_32)) ((x2 + (x3 * v_32)) + (x4 * v_35)) 0 0 h (by omega) (by omega) _ _ _ _ hP hD hG (by omega) hS (lv_sub hl [7, 8, 9, 10, 11, 6, 5, 4, 3, 2, 1, 0] rfl)
theorem dX4_group_0 : decode cX4_group 0 = .ok (.aload_n 1, 1) := by decide +kernel
theorem dX4_group_1 : decode cX4_group 1 = .ok (.getfield 153, 3) := by decide +kernel
theorem dX4_group_4 : decode cX4_group 4 = .ok (.getfield 29, 3) := by decide +kernel
theorem dX4_group_7 : decode cX4_group 7 = .ok (.istore 5, 2) := by decide +kernel
theorem dX4_group_9 : decode cX4_group 9 = .ok (.iload 5, 2) := by decide +kernel
theorem dX4_group_11 : decode cX4_group 11 = .ok (.aload_n 1, 1) := by decide +kernel
theorem dX4_group_12 : decode cX4_group 12 = .ok (.getfield 156, 3) := by decide +kernel
theorem dX4_group_15 : decode cX4_group 15 = .ok (.iadd, 1) := by decide +kernel
theorem dX4_group_16 : decode cX4_group 16 = .ok (.istore 6, 2) := by decide +kernel
theorem dX4_group_18 : decode cX4_group 18 = .ok (.iload_n 2, 1) := by decide +kernel
theorem dX4_group_19 : decode cX4_group 19 = .ok (.iload_n 3, 1) := by decide +kernel
theorem dX4_group_20 : decode cX4_group 20 = .ok (.iload 4, 2) := by decide +kernel
theorem dX4_group_22 : decode cX4_group 22 = .ok (.imul, 1) := by decide +kernel
theorem dX4_group_23 : decode cX4_group 23 = .ok (.iadd, 1) := by decide +kernel
theorem dX4_group_24 : decode cX4_group 24 = .ok (.istore 7, 2) := by decide +kernel
theorem dX4_group_26 : decode cX4_group 26 = .ok (.iconst 0, 1) := by decide +kernel
theorem dX4_group_27 : decode cX4_group 27 = .ok (.istore 8, 2) := by decide +kernel
theorem dX4_group_29 : decode cX4_group 29 = .ok (.iload 8, 2) := by decide +kernel
theorem dX4_group_31 : decode cX4_group 31 = .ok (.iload_n 3, 1) := by decide +kernel
theorem dX4_group_32 : decode cX4_group 32 = .ok (.if_icmp .ge 55, 3) := by decide +kernel
theorem dX4_group_35 : decode cX4_group 35 = .ok (.aload_n 0, 1) := by decide +kernel
theorem dX4_group_36 : decode cX4_group 36 = .ok (.aload_n 1, 1) := by decide +kernel
theorem dX4_group_37 : decode cX4_group 37 = .ok (.getfield 153, 3) := by decide +kernel
theorem dX4_group_40 : decode cX4_group 40 = .ok (.iload_n 2, 1) := by decide +kernel
theorem dX4_group_41 : decode cX4_group 41 = .ok (.iload 8, 2) := by decide +kernel
theorem dX4_group_43 : decode cX4_group 43 = .ok (.iload 4, 2) := by decide +kernel
theorem dX4_group_45 : decode cX4_group 45 = .ok (.imul, 1) := by decide +kernel
theorem dX4_group_46 : decode cX4_group 46 = .ok (.iadd, 1) := by decide +kernel
theorem dX4_group_47 : decode cX4_group 47 = .ok (.iload 7, 2) := by decide +kernel
theorem dX4_group_49 : decode cX4_group 49 = .ok (.iload 8, 2) := by decide +kernel
theorem dX4_group_51 : decode cX4_group 51 = .ok (.iload 6, 2) := by decide +kernel
theorem dX4_group_53 : decode cX4_group 53 = .ok (.imul, 1) := by decide +kernel
theorem dX4_group_54 : decode cX4_group 54 = .ok (.iadd, 1) := by decide +kernel
theorem dX4_group_55 : decode cX4_group 55 = .ok (.invokevirtual 93, 3) := by decide +kernel
theorem dX4_group_58 : decode cX4_group 58 = .ok (.aload_n 0, 1) := by decide +kernel
theorem dX4_group_59 : decode cX4_group 59 = .ok (.aload_n 1, 1) := by decide +kernel
theorem dX4_group_60 : decode cX4_group 60 = .ok (.iload_n 2, 1) := by decide +kernel
theorem dX4_group_61 : decode cX4_group 61 = .ok (.iload 8, 2) := by decide +kernel
theorem dX4_group_63 : decode cX4_group 63 = .ok (.iload 4, 2) := by decide +kernel
theorem dX4_group_65 : decode cX4_group 65 = .ok (.imul, 1) := by decide +kernel
theorem dX4_group_66 : decode cX4_group 66 = .ok (.iadd, 1) := by decide +kernel
theorem dX4_group_67 : decode cX4_group 67 = .ok (.iload 7, 2) := by decide +kernel
theorem dX4_group_69 : decode cX4_group 69 = .ok (.iload 8, 2) := by decide +kernel
theorem dX4_group_71 : decode cX4_group 71 = .ok (.iload 6, 2) := by decide +kernel
theorem dX4_group_73 : decode cX4_group 73 = .ok (.imul, 1) := by decide +kernel
theorem dX4_group_74 : decode cX4_group 74 = .ok (.iadd, 1) := by decide +kernel
theorem dX4_group_75 : decode cX4_group 75 = .ok (.iload 5, 2) := by decide +kernel
theorem dX4_group_77 : decode cX4_group 77 = .ok (.iadd, 1) := by decide +kernel
theorem dX4_group_78 : decode cX4_group 78 = .ok (.invokevirtual 229, 3) := by decide +kernel
theorem dX4_group_81 : decode cX4_group 81 = .ok (.iinc 8 1, 3) := by decide +kernel
theorem dX4_group_84 : decode cX4_group 84 = .ok (.goto (-55), 3) := by decide +kernel
theorem dX4_group_87 : decode cX4_group 87 = .ok (.aload_n 0, 1) := by decide +kernel
theorem dX4_group_88 : decode cX4_group 88 = .ok (.getfield 19, 3) := by decide +kernel
theorem dX4_group_91 : decode cX4_group 91 = .ok (.iload 7, 2) := by decide +kernel
theorem dX4_group_93 : decode cX4_group 93 = .ok (.iload_n 3, 1) := by decide +kernel
theorem dX4_group_94 : decode cX4_group 94 = .ok (.iload 6, 2) := by decide +kernel
theorem dX4_group_96 : decode cX4_group 96 = .ok (.iconst 0, 1) := by decide +kernel
theorem dX4_group_97 : decode cX4_group 97 = .ok (.invokevirtual 75, 3) := by decide +kernel
theorem dX4_group_100 : decode cX4_group 100 = .ok (.iload 7, 2) := by decide +kernel
theorem dX4_group_102 : decode cX4_group 102 = .ok (.iload_n 3, 1) := by decide +kernel
theorem dX4_group_103 : decode cX4_group 103 = .ok (.iload 6, 2) := by decide +kernel
theorem dX4_group_105 : decode cX4_group 105 = .ok (.imul, 1) := by decide +kernel
theorem dX4_group_106 : decode cX4_group 106 = .ok (.iadd, 1) := by decide +kernel
theorem dX4_group_107 : decode cX4_group 107 = .ok (.istore 8, 2) := by decide +kernel
theorem dX4_group_109 : decode cX4_group 109 = .ok (.aload_n 0, 1) := by decide +kernel
theorem dX4_group_110 : decode cX4_group 110 = .ok (.getfield 19, 3) := by decide +kernel
theorem dX4_group_113 : decode cX4_group 113 = .ok (.iload 8, 2) := by decide +kernel
theorem dX4_group_115 : decode cX4_group 115 = .ok (.iload_n 3, 1) := by decide +kernel
theorem dX4_group_116 : decode cX4_group 116 = .ok (.iconst 1, 1) := by decide +kernel
theorem dX4_group_117 : decode cX4_group 117 = .ok (.invokestatic 233, 3) := by decide +kernel
theorem dX4_group_120 : decode cX4_group 120 = .ok (.iload 6, 2) := by decide +kernel
theorem dX4_group_122 : decode cX4_group 122 = .ok (.imul, 1) := by decide +kernel
theorem dX4_group_123 : decode cX4_group 123 = .ok (.iadd, 1) := by decide +kernel
theorem dX4_group_124 : decode cX4_group 124 = .ok (.invokevirtual 236, 3) := by decide +kernel
theorem dX4_group_127 : decode cX4_group 127 = .ok (.iconst 0, 1) := by decide +kernel
theorem dX4_group_128 : decode cX4_group 128 = .ok (.istore 9, 2) := by decide +kernel
theorem dX4_group_130 : decode cX4_group 130 = .ok (.iconst 0, 1) := by decide +kernel
theorem dX4_group_131 : decode cX4_group 131 = .ok (.istore 10, 2) := by decide +kernel
theorem dX4_group_133 : decode cX4_group 133 = .ok (.iconst 1, 1) := by decide +kernel
theorem dX4_group_134 : decode cX4_group 134 = .ok (.istore 11, 2) := by decide +kernel
theorem dX4_group_136 : decode cX4_group 136 = .ok (.iload 11, 2) := by decide +kernel
theorem dX4_group_138 : decode cX4_group 138 = .ok (.iload_n 3, 1) := by decide +kernel
theorem dX4_group_139 : decode cX4_group 139 = .ok (.if_icmp .gt 79, 3) := by decide +kernel
theorem dX4_group_142 : decode cX4_group 142 = .ok (.iload 7, 2) := by decide +kernel
theorem dX4_group_144 : decode cX4_group 144 = .ok (.iload 10, 2) := by decide +kernel
theorem dX4_group_146 : decode cX4_group 146 = .ok (.iload 6, 2) := by decide +kernel
theorem dX4_group_148 : decode cX4_group 148 = .ok (.imul, 1) := by decide +kernel
theorem dX4_group_149 : decode cX4_group 149 = .ok (.iadd, 1) := by decide +kernel
theorem dX4_group_150 : decode cX4_group 150 = .ok (.istore 12, 2) := by decide +kernel
theorem dX4_group_152 : decode cX4_group 152 = .ok (.iload 11, 2) := by decide +kernel
theorem dX4_group_154 : decode cX4_group 154 = .ok (.iload_n 3, 1) := by decide +kernel
theorem dX4_group_155 : decode cX4_group 155 = .ok (.if_icmp .eq 30, 3) := by decide +kernel
theorem dX4_group_158 : decode cX4_group 158 = .ok (.aload_n 0, 1) := by decide +kernel
theorem dX4_group_159 : decode cX4_group 159 = .ok (.getfield 19, 3) := by decide +kernel
theorem dX4_group_162 : decode cX4_group 162 = .ok (.iload 12, 2) := by decide +kernel
theorem dX4_group_164 : decode cX4_group 164 = .ok (.aload_n 0, 1) := by decide +kernel
theorem dX4_group_165 : decode cX4_group 165 = .ok (.getfield 19, 3) := by decide +kernel
theorem dX4_group_168 : decode cX4_group 168 = .ok (.iload 7, 2) := by decide +kernel
theorem dX4_group_170 : decode cX4_group 170 = .ok (.iload 11, 2) := by decide +kernel
theorem dX4_group_172 : decode cX4_group 172 = .ok (.iload 6, 2) := by decide +kernel
theorem dX4_group_174 : decode cX4_group 174 = .ok (.imul, 1) := by decide +kernel
theorem dX4_group_175 : decode cX4_group 175 = .ok (.iadd, 1) := by decide +kernel
theorem dX4_group_176 : decode cX4_group 176 = .ok (.iload 5, 2) := by decide +kernel
theorem dX4_group_178 : decode cX4_group 178 = .ok (.iconst 0, 1) := by decide +kernel
theorem dX4_group_179 : decode cX4_group 179 = .ok (.invokevirtual 85, 3) := by decide +kernel
theorem dX4_group_182 : decode cX4_group 182 = .ok (.ifCond .eq 30, 3) := by decide +kernel
theorem dX4_group_185 : decode cX4_group 185 = .ok (.aload_n 0, 1) := by decide +kernel
theorem dX4_group_186 : decode cX4_group 186 = .ok (.aload_n 1, 1) := by decide +kernel
theorem dX4_group_187 : decode cX4_group 187 = .ok (.iload 12, 2) := by decide +kernel
theorem dX4_group_189 : decode cX4_group 189 = .ok (.iload 11, 2) := by decide +kernel
theorem dX4_group_191 : decode cX4_group 191 = .ok (.iload 10, 2) := by decide +kernel
theorem dX4_group_193 : decode cX4_group 193 = .ok (.isub, 1) := by decide +kernel
theorem dX4_group_194 : decode cX4_group 194 = .ok (.iload 8, 2) := by decide +kernel
theorem dX4_group_196 : decode cX4_group 196 = .ok (.iload 9, 2) := by decide +kernel
theorem dX4_group_198 : decode cX4_group 198 = .ok (.iload 6, 2) := by decide +kernel
theorem dX4_group_200 : decode cX4_group 200 = .ok (.imul, 1) := by decide +kernel
theorem dX4_group_201 : decode cX4_group 201 = .ok (.iadd, 1) := by decide +kernel
theorem dX4_group_202 : decode cX4_group 202 = .ok (.invokevirtual 240, 3) := by decide +kernel
theorem dX4_group_205 : decode cX4_group 205 = .ok (.iinc 9 1, 3) := by decide +kernel
theorem dX4_group_208 : decode cX4_group 208 = .ok (.iload 11, 2) := by decide +kernel
theorem dX4_group_210 : decode cX4_group 210 = .ok (.istore 10, 2) := by decide +kernel
theorem dX4_group_212 : decode cX4_group 212 = .ok (.iinc 11 1, 3) := by decide +kernel
theorem dX4_group_215 : decode cX4_group 215 = .ok (.goto (-79), 3) := by decide +kernel
theorem dX4_group_218 : decode cX4_group 218 = .ok (.iload 9, 2) := by decide +kernel
theorem dX4_group_220 : decode cX4_group 220 = .ok (.ifCond .ne 21, 3) := by decide +kernel
theorem dX4_group_223 : decode cX4_group 223 = .ok (.iload 5, 2) := by decide +kernel
theorem dX4_group_225 : decode cX4_group 225 = .ok (.ifCond .ne 16, 3) := by decide +kernel
theorem dX4_group_228 : decode cX4_group 228 = .ok (.aload_n 0, 1) := by decide +kernel
theorem dX4_group_229 : decode cX4_group 229 = .ok (.aload_n 1, 1) := by decide +kernel
theorem dX4_group_230 : decode cX4_group 230 = .ok (.iload 7, 2) := by decide +kernel
theorem dX4_group_232 : decode cX4_group 232 = .ok (.iconst 0, 1) := by decide +kernel
theorem dX4_group_233 : decode cX4_group 233 = .ok (.iload 8, 2) := by decide +kernel
theorem dX4_group_235 : decode cX4_group 235 = .ok (.invokevirtual 240, 3) := by decide +kernel
theorem dX4_group_238 : decode cX4_group 238 = .ok (.iconst 1, 1) := by decide +kernel
theorem dX4_group_239 : decode cX4_group 239 = .ok (.istore 9, 2) := by decide +kernel
theorem dX4_group_241 : decode cX4_group 241 = .ok (.aload_n 0, 1) := by decide +kernel
theorem dX4_group_242 : decode cX4_group 242 = .ok (.getfield 19, 3) := by decide +kernel
theorem dX4_group_245 : decode cX4_group 245 = .ok (.iload 8, 2) := by decide +kernel
theorem dX4_group_247 : decode cX4_group 247 = .ok (.iload_n 2, 1) := by decide +kernel
theorem dX4_group_248 : decode cX4_group 248 = .ok (.iload 9, 2) := by decide +kernel
theorem dX4_group_250 : decode cX4_group 250 = .ok (.iload 6, 2) := by decide +kernel
theorem dX4_group_252 : decode cX4_group 252 = .ok (.imul, 1) := by decide +kernel
theorem dX4_group_253 : decode cX4_group 253 = .ok (.invokevirtual 89, 3) := by decide +kernel
theorem dX4_group_256 : decode cX4_group 256 = .ok (.iload 9, 2) := by decide +kernel
theorem dX4_group_258 : decode cX4_group 258 = .ok (.ireturn, 1) := by decide +kernel
def c_X4_group_b256 (F : Nat) (cs1 : CS) (u9 : Int32) : Option (CS × Int32) := some (cs1, u9)
def c_X4_group_b241 (F : Nat) (cs1 : CS) (u0 : Nat) (u2 : Int32) (u6 : Int32) (u8 : Int32) (u9 : Int32) : Option (CS × Int32) := Option.bind (gR cs1 5 162 u0) fun v_1 => Option.bind (v_1) fun i_3 => Option.bind (ckE cs1 9 i_3) fun _ => Option.bind (c_X8_copy F cs1 i_3 u8 u2 (u9 * u6)) fun cs_2 => c_X4_group_b256 F cs_2 u9
def c_X4_group_b238 (F : Nat) (cs1 : CS) (u0 : Nat) (u2 : Int32) (u6 : Int32) (u8 : Int32) : Option (CS × Int32) := c_X4_group_b241 F cs1 u0 u2 u6 u8 1
def c_X4_group_b212 (F : Nat) (rc136 : CS → Nat → Nat → Int32 → Int32 → Int32 → Int32 → Int32 → Int32 → Int32 → Int32 → Int32 → Option (CS × Int32)) (cs1 : CS) (u0 : Nat) (u1 : Nat) (u2 : Int32) (u3 : Int32) (u5 : Int32) (u6 : Int32) (u7 : Int32) (u8 : Int32) (u9 : Int32) (u10 : Int32) (u11 : Int32) : Option (CS × Int32) := rc136 cs1 u0 u1 u2 u3 u5 u6 u7 u8 u9 u10 (u11 + 1)
def c_X4_group_b205 (F : Nat) (rc136 : CS → Nat → Nat → Int32 → Int32 → Int32 → Int32 → Int32 → Int32 → Int32 → Int32 → Int32 → Option (CS × Int32)) (cs1 : CS) (u0 : Nat) (u1 : Nat) (u2 : Int32) (u3 : Int32) (u5 : Int32) (u6 : Int32) (u7 : Int32) (u8 : Int32) (u9 : Int32) (u11 : Int32) : Option (CS × Int32) := c_X4_group_b212 F rc136 cs1 u0 u1 u2 u3 u5 u6 u7 u8 (u9 + 1) u11 u11
def c_X4_group_b185 (F : Nat) (rc136 : CS → Nat → Nat → Int32 → Int32 → Int32 → Int32 → Int32 → Int32 → Int32 → Int32 → Int32 → Option (CS × Int32)) (cs1 : CS) (u0 : Nat) (u1 : Nat) (u2 : Int32) (u3 : Int32) (u5 : Int32) (u6 : Int32) (u7 : Int32) (u8 : Int32) (u9 : Int32) (u10 : Int32) (u11 : Int32) (u12 : Int32) : Option (CS × Int32) := Option.bind (ckE cs1 5 u0) fun _ => Option.bind (c_X4_fold F cs1 u0 u1 u12 (u11 - u10) (u8 + (u9 * u6))) fun cs_5 => c_X4_group_b205 F rc136 cs_5 u0 u1 u2 u3 u5 u6 u7 u8 u9 u11
def c_X4_group_L136 (F : Nat) : Nat → CS → Nat → Nat → Int32 → Int32 → Int32 → Int32 → Int32 → Int32 → Int32 → Int32 → Int32 → Option (CS × Int32)
  | 0, _, _, _, _, _, _, _, _, _, _, _, _ => none
  | lf_136 + 1, cs1, u0, u1, u2, u3, u5, u6, u7, u8, u9, u10, u11 => if u3 < u11 then (if u9 = 0 then (if u5 = 0 then (Option.bind (ckE cs1 5 u0) fun _ => Option.bind (c_X4_fold F cs1 u0 u1 u7 0 u8) fun cs_10 => c_X4_group_b238 F cs_10 u0 u2 u6 u8) else (c_X4_group_b241 F cs1 u0 u2 u6 u8 u9)) else (c_X4_group_b241 F cs1 u0 u2 u6 u8 u9)) else (if u11 = u3 then (c_X4_group_b185 F (c_X4_group_L136 F lf_136) cs1 u0 u1 u2 u3 u5 u6 u7 u8 u9 u10 u11 (u7 + (u10 * u6))) else (Option.bind (gR cs1 5 162 u0) fun v_13 => Option.bind (gR cs1 5 162 u0) fun v_14 => Option.bind (v_14) fun i_15 => Option.bind (v_13) fun i_17 => Option.bind (ckE cs1 9 i_17) fun _ => Option.bind (c_X8_compareRows F cs1 i_17 (u7 + (u10 * u6)) i_15 (u7 + (u11 * u6)) u5 0) fun v_16 => if v_16 = 0 then (c_X4_group_b212 F (c_X4_group_L136 F lf_136) cs1 u0 u1 u2 u3 u5 u6 u7 u8 u9 u10 u11) else (c_X4_group_b185 F (c_X4_group_L136 F lf_136) cs1 u0 u1 u2 u3 u5 u6 u7 u8 u9 u10 u11 (u7 + (u10 * u6)))))
def c_X4_group_b127 (F : Nat) (cs1 : CS) (u0 : Nat) (u1 : Nat) (u2 : Int32) (u3 : Int32) (u5 : Int32) (u6 : Int32) (u7 : Int32) (u8 : Int32) : Option (CS × Int32) := c_X4_group_L136 F F cs1 u0 u1 u2 u3 u5 u6 u7 u8 0 0 1
def c_X4_group_b100 (F : Nat) (cs1 : CS) (u0 : Nat) (u1 : Nat) (u2 : Int32) (u3 : Int32) (u5 : Int32) (u6 : Int32) (u7 : Int32) : Option (CS × Int32) := Option.bind (gR cs1 5 162 u0) fun v_20 => Option.bind (v_20) fun i_22 => Option.bind (ckE cs1 9 i_22) fun _ => Option.bind (c_X8_reserve F cs1 i_22 ((u7 + (u3 * u6)) + ((if u3 < 1 then 1 else u3) * u6))) fun cs_21 => c_X4_group_b127 F cs_21 u0 u1 u2 u3 u5 u6 u7 (u7 + (u3 * u6))
def c_X4_group_b81 (F : Nat) (rc29 : CS → Nat → Nat → Int32 → Int32 → Int32 → Int32 → Int32 → Int32 → Int32 → Option (CS × Int32)) (cs1 : CS) (u0 : Nat) (u1 : Nat) (u2 : Int32) (u3 : Int32) (u4 : Int32) (u5 : Int32) (u6 : Int32) (u7 : Int32) (u8 : Int32) : Option (CS × Int32) := rc29 cs1 u0 u1 u2 u3 u4 u5 u6 u7 (u8 + 1)
def c_X4_group_b58 (F : Nat) (rc29 : CS → Nat → Nat → Int32 → Int32 → Int32 → Int32 → Int32 → Int32 → Int32 → Option (CS × Int32)) (cs1 : CS) (u0 : Nat) (u1 : Nat) (u2 : Int32) (u3 : Int32) (u4 : Int32) (u5 : Int32) (u6 : Int32) (u7 : Int32) (u8 : Int32) : Option (CS × Int32) := Option.bind (ckE cs1 5 u0) fun _ => Option.bind (c_X4_computeInsides F cs1 u0 u1 (u2 + (u8 * u4)) ((u7 + (u8 * u6)) + u5)) fun cs_24 => c_X4_group_b81 F rc29 cs_24 u0 u1 u2 u3 u4 u5 u6 u7 u8
def c_X4_group_L29 (F : Nat) : Nat → CS → Nat → Nat → Int32 → Int32 → Int32 → Int32 → Int32 → Int32 → Int32 → Option (CS × Int32)
  | 0, _, _, _, _, _, _, _, _, _, _ => none
  | lf_29 + 1, cs1, u0, u1, u2, u3, u4, u5, u6, u7, u8 => if u3 ≤ u8 then (Option.bind (gR cs1 5 162 u0) fun v_27 => Option.bind (v_27) fun i_29 => Option.bind (ckE cs1 9 i_29) fun _ => Option.bind (c_X8_sort F cs1 i_29 u7 u3 u6 0) fun cs_28 => c_X4_group_b100 F cs_28 u0 u1 u2 u3 u5 u6 u7) else (Option.bind (gR cs1 6 200 u1) fun v_31 => Option.bind (v_31) fun i_32 => Option.bind (ckE cs1 5 u0) fun _ => Option.bind (c_X4_computeAll F cs1 u0 i_32 (u2 + (u8 * u4)) (u7 + (u8 * u6))) fun cs_33 => c_X4_group_b58 F (c_X4_group_L29 F lf_29) cs_33 u0 u1 u2 u3 u4 u5 u6 u7 u8)
def c_X4_group (F : Nat) (cs : CS) (x0 : Nat) (x1 : Nat) (x2 : Int32) (x3 : Int32) (x4 : Int32) : Option (CS × Int32) := Option.bind (gR cs 6 200 x1) fun v_35 => Option.bind (v_35) fun i_36 => Option.bind (gI cs 3 96 i_36) fun v_37 => Option.bind (gI cs 6 203 x1) fun v_38 => c_X4_group_L29 F F cs x0 x1 x2 x3 x4 v_37 (v_37 + v_38) (x2 + (x3 * x4)) 0
theorem cw_X4_X4_group {R : Room} {s : State} {args : Array Value} {y0 : MethodName} {c0 : ByteArray} {n0 : Nat} {r0 : Option FieldType} (hts : ∀ w ∈ wsOf y0 c0 n0 r0, w.before args s = true) {fr mc ms : Nat} (h1 : fr + 1 ≤ R.frames) (h2 : 8 + (13 + 11) + 60 * fr ≤ R.locals) : CallW R s args RX4 RX4 149 yX4_group cX4_group 13 (some .int) (wsOf yX4_group cX4_group 13 (some .int)) ({ frames := fr, cells := mc, slots := ms, locals := 60 * fr } : Room) mc ms 4 := cwV 4 hts (gd_all (in_V kw_1466 kw_1468 kw_80 kw_206 kc_X4_group)) rfl rfl rfl (by decide +kernel) ⟨h1, h2⟩
theorem mo_c_X4_group_b256 (F : Nat) (cs1 : CS) (u9 : Int32) (cs9 : CS) (r9 : Int32) (h : c_X4_group_b256 F cs1 u9 = some (cs9, r9)) : kK cs1 ≤ kK cs9 ∧ kM cs1 ≤ kM cs9 := by
  unfold c_X4_group_b256 at h
  have h9 := (Prod.mk.inj (Option.some.inj h)).1
  have k9 := congrArg kK h9; have m9 := congrArg kM h9; exact ⟨by omega, by omega⟩
theorem mo_c_X4_group_b241 (F : Nat) (cs1 : CS) (u0 : Nat) (u2 : Int32) (u6 : Int32) (u8 : Int32) (u9 : Int32) (cs9 : CS) (r9 : Int32) (h : c_X4_group_b241 F cs1 u0 u2 u6 u8 u9 = some (cs9, r9)) : kK cs1 ≤ kK cs9 ∧ kM cs1 ≤ kM cs9 := by
  unfold c_X4_group_b241 at h
  replace h := ob h; obtain ⟨v_35, hv_35, h⟩ := h
  replace h := ob h; obtain ⟨i_37, hi_37, h⟩ := h
  subst hi_37
  replace h := ob h; obtain ⟨w_38, hw_38, h⟩ := h
  replace h := ob h; obtain ⟨cs_36, hv_36, h⟩ := h
  obtain ⟨qk_36, qm_36⟩ := mo_c_X8_copy F cs1 i_37 u8 u2 (u9 * u6) cs_36 hv_36
  obtain ⟨k9, m9⟩ := mo_c_X4_group_b256 F cs_36 u9 cs9 r9 h
  exact ⟨by omega, by omega⟩
theorem mo_c_X4_group_b238 (F : Nat) (cs1 : CS) (u0 : Nat) (u2 : Int32) (u6 : Int32) (u8 : Int32) (cs9 : CS) (r9 : Int32) (h : c_X4_group_b238 F cs1 u0 u2 u6 u8 = some (cs9, r9)) : kK cs1 ≤ kK cs9 ∧ kM cs1 ≤ kM cs9 := by
  unfold c_X4_group_b238 at h
  obtain ⟨k9, m9⟩ := mo_c_X4_group_b241 F cs1 u0 u2 u6 u8 1 cs9 r9 h
  exact ⟨by omega, by omega⟩
theorem mo_c_X4_group_b212 (F : Nat) (rc136 : CS → Nat → Nat → Int32 → Int32 → Int32 → Int32 → Int32 → Int32 → Int32 → Int32 → Int32 → Option (CS × Int32)) (hrc136 : ∀ (cs1 : CS) (u0 : Nat) (u1 : Nat) (u2 : Int32) (u3 : Int32) (u5 : Int32) (u6 : Int32) (u7 : Int32) (u8 : Int32) (u9 : Int32) (u10 : Int32) (u11 : Int32) (cs9 : CS) (r9 : Int32), rc136 cs1 u0 u1 u2 u3 u5 u6 u7 u8 u9 u10 u11 = some (cs9, r9) → kK cs1 ≤ kK cs9 ∧ kM cs1 ≤ kM cs9) (cs1 : CS) (u0 : Nat) (u1 : Nat) (u2 : Int32) (u3 : Int32) (u5 : Int32) (u6 : Int32) (u7 : Int32) (u8 : Int32) (u9 : Int32) (u10 : Int32) (u11 : Int32) (cs9 : CS) (r9 : Int32) (h : c_X4_group_b212 F rc136 cs1 u0 u1 u2 u3 u5 u6 u7 u8 u9 u10 u11 = some (cs9, r9)) : kK cs1 ≤ kK cs9 ∧ kM cs1 ≤ kM cs9 := by
  unfold c_X4_group_b212 at h
  obtain ⟨k9, m9⟩ := hrc136 cs1 u0 u1 u2 u3 u5 u6 u7 u8 u9 u10 (u11 + 1) cs9 r9 h
  exact ⟨by omega, by omega⟩
theorem mo_c_X4_group_b205 (F : Nat) (rc136 : CS → Nat → Nat → Int32 → Int32 → Int32 → Int32 → Int32 → Int32 → Int32 → Int32 → Int32 → Option (CS × Int32)) (hrc136 : ∀ (cs1 : CS) (u0 : Nat) (u1 : Nat) (u2 : Int32) (u3 : Int32) (u5 : Int32) (u6 : Int32) (u7 : Int32) (u8 : Int32) (u9 : Int32) (u10 : Int32) (u11 : Int32) (cs9 : CS) (r9 : Int32), rc136 cs1 u0 u1 u2 u3 u5 u6 u7 u8 u9 u10 u11 = some (cs9, r9) → kK cs1 ≤ kK cs9 ∧ kM cs1 ≤ kM cs9) (cs1 : CS) (u0 : Nat) (u1 : Nat) (u2 : Int32) (u3 : Int32) (u5 : Int32) (u6 : Int32) (u7 : Int32) (u8 : Int32) (u9 : Int32) (u11 : Int32) (cs9 : CS) (r9 : Int32) (h : c_X4_group_b205 F rc136 cs1 u0 u1 u2 u3 u5 u6 u7 u8 u9 u11 = some (cs9, r9)) : kK cs1 ≤ kK cs9 ∧ kM cs1 ≤ kM cs9 := by
  unfold c_X4_group_b205 at h
  obtain ⟨k9, m9⟩ := mo_c_X4_group_b212 F rc136 hrc136 cs1 u0 u1 u2 u3 u5 u6 u7 u8 (u9 + 1) u11 u11 cs9 r9 h
  exact ⟨by omega, by omega⟩
theorem mo_c_X4_group_b185 (F : Nat) (rc136 : CS → Nat → Nat → Int32 → Int32 → Int32 → Int32 → Int32 → Int32 → Int32 → Int32 → Int32 → Option (CS × Int32)) (hrc136 : ∀ (cs1 : CS) (u0 : Nat) (u1 : Nat) (u2 : Int32) (u3 : Int32) (u5 : Int32) (u6 : Int32) (u7 : Int32) (u8 : Int32) (u9 : Int32) (u10 : Int32) (u11 : Int32) (cs9 : CS) (r9 : Int32), rc136 cs1 u0 u1 u2 u3 u5 u6 u7 u8 u9 u10 u11 = some (cs9, r9) → kK cs1 ≤ kK cs9 ∧ kM cs1 ≤ kM cs9) (cs1 : CS) (u0 : Nat) (u1 : Nat) (u2 : Int32) (u3 : Int32) (u5 : Int32) (u6 : Int32) (u7 : Int32) (u8 : Int32) (u9 : Int32) (u10 : Int32) (u11 : Int32) (u12 : Int32) (cs9 : CS) (r9 : Int32) (h : c_X4_group_b185 F rc136 cs1 u0 u1 u2 u3 u5 u6 u7 u8 u9 u10 u11 u12 = some (cs9, r9)) : kK cs1 ≤ kK cs9 ∧ kM cs1 ≤ kM cs9 := by
  unfold c_X4_group_b185 at h
  replace h := ob h; obtain ⟨w_36, hw_36, h⟩ := h
  replace h := ob h; obtain ⟨cs_35, hv_35, h⟩ := h
  obtain ⟨qk_35, qm_35⟩ := mo_c_X4_fold F cs1 u0 u1 u12 (u11 - u10) (u8 + (u9 * u6)) cs_35 hv_35
  obtain ⟨k9, m9⟩ := mo_c_X4_group_b205 F rc136 hrc136 cs_35 u0 u1 u2 u3 u5 u6 u7 u8 u9 u11 cs9 r9 h
  exact ⟨by omega, by omega⟩
theorem mo_c_X4_group_L136 (F : Nat) : ∀ (lf_136 : Nat) (cs1 : CS) (u0 : Nat) (u1 : Nat) (u2 : Int32) (u3 : Int32) (u5 : Int32) (u6 : Int32) (u7 : Int32) (u8 : Int32) (u9 : Int32) (u10 : Int32) (u11 : Int32) (cs9 : CS) (r9 : Int32), c_X4_group_L136 F lf_136 cs1 u0 u1 u2 u3 u5 u6 u7 u8 u9 u10 u11 = some (cs9, r9) → kK cs1 ≤ kK cs9 ∧ kM cs1 ≤ kM cs9 := by
  intro lf_136
  induction lf_136 with
  | zero => intro cs1 u0 u1 u2 u3 u5 u6 u7 u8 u9 u10 u11 cs9 r9 h; cases (show (none : Option (CS × Int32)) = _ from h)
  | succ lf_136 ih_136 =>
    intro cs1 u0 u1 u2 u3 u5 u6 u7 u8 u9 u10 u11 cs9 r9 h
    rw [c_X4_group_L136] at h
    by_cases c_35 : u3 < u11
    · skip
      replace h := (if_pos c_35).symm.trans h
      by_cases c_36 : u9 = 0
      · skip
        replace h := (if_pos c_36).symm.trans h
        by_cases c_37 : u5 = 0
        · skip
          replace h := (if_pos c_37).symm.trans h
          replace h := ob h; obtain ⟨w_39, hw_39, h⟩ := h
          replace h := ob h; obtain ⟨cs_38, hv_38, h⟩ := h
          obtain ⟨qk_38, qm_38⟩ := mo_c_X4_fold F cs1 u0 u1 u7 0 u8 cs_38 hv_38
          obtain ⟨k9, m9⟩ := mo_c_X4_group_b238 F cs_38 u0 u2 u6 u8 cs9 r9 h
          exact ⟨by omega, by omega⟩
        · skip
          replace h := (if_neg c_37).symm.trans h
          obtain ⟨k9, m9⟩ := mo_c_X4_group_b241 F cs1 u0 u2 u6 u8 u9 cs9 r9 h
          exact ⟨by omega, by omega⟩
      · skip
        replace h := (if_neg c_36).symm.trans h
        obtain ⟨k9, m9⟩ := mo_c_X4_group_b241 F cs1 u0 u2 u6 u8 u9 cs9 r9 h
        exact ⟨by omega, by omega⟩
    · skip
      replace h := (if_neg c_35).symm.trans h
      by_cases c_40 : u11 = u3
      · skip
        replace h := (if_pos c_40).symm.trans h
        obtain ⟨k9, m9⟩ := mo_c_X4_group_b185 F (c_X4_group_L136 F lf_136) ih_136 cs1 u0 u1 u2 u3 u5 u6 u7 u8 u9 u10 u11 (u7 + (u10 * u6)) cs9 r9 h
        exact ⟨by omega, by omega⟩
      · skip
        replace h := (if_neg c_40).symm.trans h
        replace h := ob h; obtain ⟨v_41, hv_41, h⟩ := h
        replace h := ob h; obtain ⟨v_42, hv_42, h⟩ := h
        replace h := ob h; obtain ⟨i_43, hi_43, h⟩ := h
        subst hi_43
        replace h := ob h; obtain ⟨i_45, hi_45, h⟩ := h
        subst hi_45
        replace h := ob h; obtain ⟨w_46, hw_46, h⟩ := h
        replace h := ob h; obtain ⟨v_44, hv_44, h⟩ := h
        by_cases c_47 : v_44 = 0
        · skip
          replace h := (if_pos c_47).symm.trans h
          obtain ⟨k9, m9⟩ := mo_c_X4_group_b212 F (c_X4_group_L136 F lf_136) ih_136 cs1 u0 u1 u2 u3 u5 u6 u7 u8 u9 u10 u11 cs9 r9 h
          exact ⟨by omega, by omega⟩
        · skip
          replace h := (if_neg c_47).symm.trans h
          obtain ⟨k9, m9⟩ := mo_c_X4_group_b185 F (c_X4_group_L136 F lf_136) ih_136 cs1 u0 u1 u2 u3 u5 u6 u7 u8 u9 u10 u11 (u7 + (u10 * u6)) cs9 r9 h
          exact ⟨by omega, by omega⟩
theorem mo_c_X4_group_b127 (F : Nat) (cs1 : CS) (u0 : Nat) (u1 : Nat) (u2 : Int32) (u3 : Int32) (u5 : Int32) (u6 : Int32) (u7 : Int32) (u8 : Int32) (cs9 : CS) (r9 : Int32) (h : c_X4_group_b127 F cs1 u0 u1 u2 u3 u5 u6 u7 u8 = some (cs9, r9)) : kK cs1 ≤ kK cs9 ∧ kM cs1 ≤ kM cs9 := by
  unfold c_X4_group_b127 at h
  obtain ⟨k9, m9⟩ := mo_c_X4_group_L136 F F cs1 u0 u1 u2 u3 u5 u6 u7 u8 0 0 1 cs9 r9 h
  exact ⟨by omega, by omega⟩
theorem mo_c_X4_group_b100 (F : Nat) (cs1 : CS) (u0 : Nat) (u1 : Nat) (u2 : Int32) (u3 : Int32) (u5 : Int32) (u6 : Int32) (u7 : Int32) (cs9 : CS) (r9 : Int32) (h : c_X4_group_b100 F cs1 u0 u1 u2 u3 u5 u6 u7 = some (cs9, r9)) : kK cs1 ≤ kK cs9 ∧ kM cs1 ≤ kM cs9 := by
  unfold c_X4_group_b100 at h
  replace h := ob h; obtain ⟨v_35, hv_35, h⟩ := h
  replace h := ob h; obtain ⟨i_37, hi_37, h⟩ := h
  subst hi_37
  replace h := ob h; obtain ⟨w_38, hw_38, h⟩ := h
  replace h := ob h; obtain ⟨cs_36, hv_36, h⟩ := h
  obtain ⟨qk_36, qm_36⟩ := mo_c_X8_reserve F cs1 i_37 ((u7 + (u3 * u6)) + ((if u3 < 1 then 1 else u3) * u6)) cs_36 hv_36
  obtain ⟨k9, m9⟩ := mo_c_X4_group_b127 F cs_36 u0 u1 u2 u3 u5 u6 u7 (u7 + (u3 * u6)) cs9 r9 h
  exact ⟨by omega, by omega⟩
theorem mo_c_X4_group_b81 (F : Nat) (rc29 : CS → Nat → Nat → Int32 → Int32 → Int32 → Int32 → Int32 → Int32 → Int32 → Option (CS × Int32)) (hrc29 : ∀ (cs1 : CS) (u0 : Nat) (u1 : Nat) (u2 : Int32) (u3 : Int32) (u4 : Int32) (u5 : Int32) (u6 : Int32) (u7 : Int32) (u8 : Int32) (cs9 : CS) (r9 : Int32), rc29 cs1 u0 u1 u2 u3 u4 u5 u6 u7 u8 = some (cs9, r9) → kK cs1 ≤ kK cs9 ∧ kM cs1 ≤ kM cs9) (cs1 : CS) (u0 : Nat) (u1 : Nat) (u2 : Int32) (u3 : Int32) (u4 : Int32) (u5 : Int32) (u6 : Int32) (u7 : Int32) (u8 : Int32) (cs9 : CS) (r9 : Int32) (h : c_X4_group_b81 F rc29 cs1 u0 u1 u2 u3 u4 u5 u6 u7 u8 = some (cs9, r9)) : kK cs1 ≤ kK cs9 ∧ kM cs1 ≤ kM cs9 := by
  unfold c_X4_group_b81 at h
  obtain ⟨k9, m9⟩ := hrc29 cs1 u0 u1 u2 u3 u4 u5 u6 u7 (u8 + 1) cs9 r9 h
  exact ⟨by omega, by omega⟩
theorem mo_c_X4_group_b58 (F : Nat) (rc29 : CS → Nat → Nat → Int32 → Int32 → Int32 → Int32 → Int32 → Int32 → Int32 → Option (CS × Int32)) (hrc29 : ∀ (cs1 : CS) (u0 : Nat) (u1 : Nat) (u2 : Int32) (u3 : Int32) (u4 : Int32) (u5 : Int32) (u6 : Int32) (u7 : Int32) (u8 : Int32) (cs9 : CS) (r9 : Int32), rc29 cs1 u0 u1 u2 u3 u4 u5 u6 u7 u8 = some (cs9, r9) → kK cs1 ≤ kK cs9 ∧ kM cs1 ≤ kM cs9) (cs1 : CS) (u0 : Nat) (u1 : Nat) (u2 : Int32) (u3 : Int32) (u4 : Int32) (u5 : Int32) (u6 : Int32) (u7 : Int32) (u8 : Int32) (cs9 : CS) (r9 : Int32) (h : c_X4_group_b58 F rc29 cs1 u0 u1 u2 u3 u4 u5 u6 u7 u8 = some (cs9, r9)) : kK cs1 ≤ kK cs9 ∧ kM cs1 ≤ kM cs9 := by
  unfold c_X4_group_b58 at h
  replace h := ob h; obtain ⟨w_36, hw_36, h⟩ := h
  replace h := ob h; obtain ⟨cs_35, hv_35, h⟩ := h
  obtain ⟨qk_35, qm_35⟩ := mo_c_X4_computeInsides F cs1 u0 u1 (u2 + (u8 * u4)) ((u7 + (u8 * u6)) + u5) cs_35 hv_35
  obtain ⟨k9, m9⟩ := mo_c_X4_group_b81 F rc29 hrc29 cs_35 u0 u1 u2 u3 u4 u5 u6 u7 u8 cs9 r9 h
  exact ⟨by omega, by omega⟩
theorem mo_c_X4_group_L29 (F : Nat) : ∀ (lf_29 : Nat) (cs1 : CS) (u0 : Nat) (u1 : Nat) (u2 : Int32) (u3 : Int32) (u4 : Int32) (u5 : Int32) (u6 : Int32) (u7 : Int32) (u8 : Int32) (cs9 : CS) (r9 : Int32), c_X4_group_L29 F lf_29 cs1 u0 u1 u2 u3 u4 u5 u6 u7 u8 = some (cs9, r9) → kK cs1 ≤ kK cs9 ∧ kM cs1 ≤ kM cs9 := by
  intro lf_29
  induction lf_29 with
  | zero => intro cs1 u0 u1 u2 u3 u4 u5 u6 u7 u8 cs9 r9 h; cases (show (none : Option (CS × Int32)) = _ from h)
  | succ lf_29 ih_29 =>
    intro cs1 u0 u1 u2 u3 u4 u5 u6 u7 u8 cs9 r9 h
    rw [c_X4_group_L29] at h
    by_cases c_35 : u3 ≤ u8
    · skip
      replace h := (if_pos c_35).symm.trans h
      replace h := ob h; obtain ⟨v_36, hv_36, h⟩ := h
      replace h := ob h; obtain ⟨i_38, hi_38, h⟩ := h
      subst hi_38
      replace h := ob h; obtain ⟨w_39, hw_39, h⟩ := h
      replace h := ob h; obtain ⟨cs_37, hv_37, h⟩ := h
      obtain ⟨qk_37, qm_37⟩ := mo_c_X8_sort F cs1 i_38 u7 u3 u6 0 cs_37 hv_37
      obtain ⟨k9, m9⟩ := mo_c_X4_group_b100 F cs_37 u0 u1 u2 u3 u5 u6 u7 cs9 r9 h
      exact ⟨by omega, by omega⟩
    · skip
      replace h := (if_neg c_35).symm.trans h
      replace h := ob h; obtain ⟨v_40, hv_40, h⟩ := h
      replace h := ob h; obtain ⟨i_41, hi_41, h⟩ := h
      subst hi_41
      replace h := ob h; obtain ⟨w_43, hw_43, h⟩ := h
      replace h := ob h; obtain ⟨cs_42, hv_42, h⟩ := h
      obtain ⟨qk_42, qm_42⟩ := mo_c_X4_computeAll F cs1 u0 i_41 (u2 + (u8 * u4)) (u7 + (u8 * u6)) cs_42 hv_42
      obtain ⟨k9, m9⟩ := mo_c_X4_group_b58 F (c_X4_group_L29 F lf_29) ih_29 cs_42 u0 u1 u2 u3 u4 u5 u6 u7 u8 cs9 r9 h
      exact ⟨by omega, by omega⟩
theorem mo_c_X4_group (F : Nat) (cs : CS) (x0 : Nat) (x1 : Nat) (x2 : Int32) (x3 : Int32) (x4 : Int32) (cs9 : CS) (r9 : Int32) (h : c_X4_group F cs x0 x1 x2 x3 x4 = some (cs9, r9)) : kK cs ≤ kK cs9 ∧ kM cs ≤ kM cs9 := by
  unfold c_X4_group at h
  replace h := ob h; obtain ⟨v_35, hv_35, h⟩ := h
  replace h := ob h; obtain ⟨i_36, hi_36, h⟩ := h
  subst hi_36
  replace h := ob h; obtain ⟨v_37, hv_37, h⟩ := h
  replace h := ob h; obtain ⟨v_38, hv_38, h⟩ := h
  obtain ⟨k9, m9⟩ := mo_c_X4_group_L29 F F cs x0 x1 x2 x3 x4 v_37 (v_37 + v_38) (x2 + (x3 * x4)) 0 cs9 r9 h
  exact ⟨by omega, by omega⟩
set_option maxHeartbeats 4000000 in
set_option maxRecDepth 100000 in
theorem sa_X4_group (l : Launch) (dC : Nat → ClassId) (dI : Nat → Nat → Nat) (cB cI cJ cZ cS cO : ClassId) (b : Nat) (K V : Nat → Nat) (fz : Value) (F : Nat) (cs : CS) (x0 : Nat) (x1 : Nat) (x2 : Int32) (x3 : Int32) (x4 : Int32) (cs9 : CS) (r9 : Int32) (hf : c_X4_group F cs x0 x1 x2 x3 x4 = some (cs9, r9)) : oaI l dC dI cB cI cJ cZ cS cO b K V fz yX4_group (wsOf yX4_group cX4_group 13 (some .int)) (6) [.ref (b + x0), .ref (b + x1), .int x2, .int x3, .int x4] cs cs9 r9 := by
  obtain ⟨kb9, mb9⟩ := mo_c_X4_group F cs x0 x1 x2 x3 x4 cs9 r9 hf
  refine ⟨⟨kb9, mb9⟩, ?_⟩
  refine Met.ofW (cc := cX4_group) (maxL := 13) (ret := (some .int)) (by decide) rfl ?_
  intro p e s m args below meth c s₁ B hml hv
  obtain ⟨rfl, hsz, hP, hK, hD0, hZ⟩ := hv
  have hx := B.exec
  have hb := B.bytes
  have hr := B.returns
  have hts := atoms_spec (ws := (wsOf yX4_group cX4_group 13 (some .int))) B.pre
  have hown : s.vm.findClass RX4 = some m.cls := findClass_of_methodNamed B.named
  have hlocks := B.notSynchronized
  have hD := hD0.self (sz := b + kK cs)
  generalize hAe : va_A (cW cB cI cJ cZ cS cO b cs) (b + kK cs) = A at hD hZ ⊢
  have hA : ∀ q : Nat, s.heap.size ≤ q → A q := fun q h => by rw [← hAe]; exact Or.inr (by omega)
  have hS : va_S A s.heap s.heap [] := va_S.rf
  have hG : va_S A s.heap s.heap [] := va_S.rf
  have hgz : s.heap.size = b + kK cs := hsz
  have hl := lv_entry ([.ref (b + x0), .ref (b + x1), .int x2, .int x3, .int x4]) (n := 13) (Nat.le_of_ble_eq_true rfl)
  rw [lg_entry_eq]
  generalize (lg_sl ([.ref (b + x0), .ref (b + x1), .int x2, .int x3, .int x4]) ++ List.replicate (13 - (lg_sl ([.ref (b + x0), .ref (b + x1), .int x2, .int x3, .int x4])).length) Slot.unset).toArray = ls at hl ⊢
  have hl : lv_has ls 13 [(0, .ref (b + x0)), (1, .ref (b + x1)), (2, .int x2), (3, .int x3), (4, .int x4)] := hl
  have B_256 : ∀ (cs1 : CS) (u9 : Int32), c_X4_group_b256 F cs1 u9 = some (cs9, r9) → kK cs ≤ kK cs1 → kM cs ≤ kM cs1 → ∀ (Gh H : Heap) (locs : List Loc) (ls : Array Slot), va_P (dC, dI) vwCl (cW cB cI cJ cZ cS cO b cs1) H → va_D A (cW cB cI cJ cZ cS cO b cs1) → va_S A s.heap Gh [] → Gh.size = b + kK cs1 → va_S A Gh H locs → lv_has ls 13 [(9, .int u9)] → W p l e (headSpec (wsOf yX4_group cX4_group 13 (some .int)) ({ frames := 6, cells := kK cs9 - kK cs, slots := kM cs9 - kM cs, locals := 60 * (6) } : Room)).room s m ([.ref (b + x0), .ref (b + x1), .int x2, .int x3, .int x4] : List Value).toArray below meth c H locs (kK cs1 - kK cs) (kM cs1 - kM cs) (MQ below (va_Qi (fun (x : Int32) (_ : Unit) => x = r9) (fun _ t_ => va_P (dC, dI) vwCl (cW cB cI cJ cZ cS cO b cs9) t_.heap ∧ va_D A (cW cB cI cJ cZ cS cO b cs9) ∧ b + kK cs9 ≤ t_.heap.size) A) ([.ref (b + x0), .ref (b + x1), .int x2, .int x3, .int x4] : List Value).toArray s (kK cs9 - kK cs) (kM cs9 - kM cs) A) (F0 m 256 ls []) := by
    intro cs1 u9 h hmk hmm Gh H locs ls hP hD hG hgz hS hl
    obtain ⟨kb9, mb9⟩ := mo_c_X4_group_b256 F cs1 u9 cs9 r9 h
    unfold c_X4_group_b256 at h
    refine lv_iload hx hb dX4_group_256 (lv_at hl 0 rfl) ?_
    obtain ⟨e1, e2⟩ := Prod.mk.inj (Option.some.inj h)
    rw [e1] at hP hD
    have e3 := congrArg kK e1
    have e4 := congrArg kM e1
    refine W_cnt (c2 := kK cs9 - kK cs) (n2 := kM cs9 - kM cs) (by omega) (by omega) ?_
    exact W.iret (v := u9) hx hb hr (fun t_ ht hW => ⟨⟨u9, (), rfl, e2, by rw [ht]; exact hP, hD, by rw [ht]; have := hS.1; omega⟩, (hG.comp hS).F ht⟩) (hG.comp hS).2.2 dX4_group_258
  have B_241 : ∀ (cs1 : CS) (u0 : Nat) (u2 : Int32) (u6 : Int32) (u8 : Int32) (u9 : Int32), c_X4_group_b241 F cs1 u0 u2 u6 u8 u9 = some (cs9, r9) → kK cs ≤ kK cs1 → kM cs ≤ kM cs1 → ∀ (Gh H : Heap) (locs : List Loc) (ls : Array Slot), va_P (dC, dI) vwCl (cW cB cI cJ cZ cS cO b cs1) H → va_D A (cW cB cI cJ cZ cS cO b cs1) → va_S A s.heap Gh [] → Gh.size = b + kK cs1 → va_S A Gh H locs → lv_has ls 13 [(0, .ref (b + u0)), (2, .int u2), (6, .int u6), (8, .int u8), (9, .int u9)] → W p l e (headSpec (wsOf yX4_group cX4_group 13 (some .int)) ({ frames := 6, cells := kK cs9 - kK cs, slots := kM cs9 - kM cs, locals := 60 * (6) } : Room)).room s m ([.ref (b + x0), .ref (b + x1), .int x2, .int x3, .int x4] : List Value).toArray below meth c H locs (kK cs1 - kK cs) (kM cs1 - kM cs) (MQ below (va_Qi (fun (x : Int32) (_ : Unit) => x = r9) (fun _ t_ => va_P (dC, dI) vwCl (cW cB cI cJ cZ cS cO b cs9) t_.heap ∧ va_D A (cW cB cI cJ cZ cS cO b cs9) ∧ b + kK cs9 ≤ t_.heap.size) A) ([.ref (b + x0), .ref (b + x1), .int x2, .int x3, .int x4] : List Value).toArray s (kK cs9 - kK cs) (kM cs9 - kM cs) A) (F0 m 241 ls []) := by
    intro cs1 u0 u2 u6 u8 u9 h hmk hmm Gh H locs ls hP hD hG hgz hS hl
    obtain ⟨kb9, mb9⟩ := mo_c_X4_group_b241 F cs1 u0 u2 u6 u8 u9 cs9 r9 h
    unfold c_X4_group_b241 at h
    refine lv_aload_n hx hb dX4_group_241 rfl (lv_at hl 0 rfl) ?_
    replace h := ob h; obtain ⟨v_1, hv_1, h⟩ := h
    refine fg_X4_19 hx hb hts hown hK hP hv_1 dX4_group_242 ?_
    refine lv_iload hx hb dX4_group_245 (lv_at hl 3 rfl) ?_
    refine lv_iload_n hx hb dX4_group_247 rfl (lv_at hl 1 rfl) ?_
    refine lv_iload hx hb dX4_group_248 (lv_at hl 4 rfl) ?_
    refine lv_iload hx hb dX4_group_250 (lv_at hl 2 rfl) ?_
    refine lv_imul hx hb dX4_group_252 ?_
    replace h := ob h; obtain ⟨i_3, hi_3, h⟩ := h
    subst hi_3
    replace h := ob h; obtain ⟨w_4, hw_4, h⟩ := h
    replace h := ob h; obtain ⟨cs_2, hv_2, h⟩ := h
    obtain ⟨qk_2, qm_2⟩ := mo_c_X8_copy F cs1 i_3 u8 u2 (u9 * u6) cs_2 hv_2
    obtain ⟨k9_2, m9_2⟩ := mo_c_X4_group_b256 F cs_2 u9 cs9 r9 h
    refine cavV (As := [.int u8, .int u2, .int (u9 * u6)]) hx hb hml hts hown hK hP hD hS hG hA (by omega) (by omega) hZ (X := 9) (by decide) rfl (ckE_some hw_4) (sa_X8_copy l dC dI cB cI cJ cZ cS cO b K V fz F cs1 i_3 u8 u2 (u9 * u6) cs_2 hv_2) (cw_X4_X8_copy hts (fr := 4) (Nat.le_of_ble_eq_true rfl) (Nat.le_of_ble_eq_true rfl)) rfl hl.1 (Nat.le_of_ble_eq_true rfl) ⟨by show kK cs1 - kK cs + (kK cs_2 - kK cs1) ≤ kK cs9 - kK cs; omega, by show kM cs1 - kM cs + (kM cs_2 - kM cs1) ≤ kM cs9 - kM cs; omega⟩ dX4_group_253 (fun H locs hP hD hG hgz hS => ?_)
    refine W_cnt (c2 := kK cs_2 - kK cs) (n2 := kM cs_2 - kM cs) (by omega) (by omega) ?_
    exact B_256 cs_2 u9 h (by omega) (by omega) _ _ _ _ hP hD hG (by omega) hS (lv_sub hl [4] rfl)
  have B_238 : ∀ (cs1 : CS) (u0 : Nat) (u2 : Int32) (u6 : Int32) (u8 : Int32), c_X4_group_b238 F cs1 u0 u2 u6 u8 = some (cs9, r9) → kK cs ≤ kK cs1 → kM cs ≤ kM cs1 → ∀ (Gh H : Heap) (locs : List Loc) (ls : Array Slot), va_P (dC, dI) vwCl (cW cB cI cJ cZ cS cO b cs1) H → va_D A (cW cB cI cJ cZ cS cO b cs1) → va_S A s.heap Gh [] → Gh.size = b + kK cs1 → va_S A Gh H locs → lv_has ls 13 [(0, .ref (b + u0)), (2, .int u2), (6, .int u6), (8, .int u8)] → W p l e (headSpec (wsOf yX4_group cX4_group 13 (some .int)) ({ frames := 6, cells := kK cs9 - kK cs, slots := kM cs9 - kM cs, locals := 60 * (6) } : Room)).room s m ([.ref (b + x0), .ref (b + x1), .int x2, .int x3, .int x4] : List Value).toArray below meth c H locs (kK cs1 - kK cs) (kM cs1 - kM cs) (MQ below (va_Qi (fun (x : Int32) (_ : Unit) => x = r9) (fun _ t_ => va_P (dC, dI) vwCl (cW cB cI cJ cZ cS cO b cs9) t_.heap ∧ va_D A (cW cB cI cJ cZ cS cO b cs9) ∧ b + kK cs9 ≤ t_.heap.size) A) ([.ref (b + x0), .ref (b + x1), .int x2, .int x3, .int x4] : List Value).toArray s (kK cs9 - kK cs) (kM cs9 - kM cs) A) (F0 m 238 ls []) := by
    intro cs1 u0 u2 u6 u8 h hmk hmm Gh H locs ls hP hD hG hgz hS hl
    obtain ⟨kb9, mb9⟩ := mo_c_X4_group_b238 F cs1 u0 u2 u6 u8 cs9 r9 h
    unfold c_X4_group_b238 at h
    refine lv_iconst (v := 1) hx hb dX4_group_238 (by decide) ?_
    refine lv_istore (lv' := [(9, .int 1), (0, .ref (b + u0)), (2, .int u2), (6, .int u6), (8, .int u8)]) hx hb dX4_group_239 hl (by decide) rfl (fun ls hl => ?_)
    refine W_cnt (c2 := kK cs1 - kK cs) (n2 := kM cs1 - kM cs) (by omega) (by omega) ?_
    exact B_241 cs1 u0 u2 u6 u8 1 h (by omega) (by omega) _ _ _ _ hP hD hG (by omega) hS (lv_sub hl [1, 2, 3, 4, 0] rfl)
  have L_136 : ∀ (lf_136 : Nat), ∀ (cs1 : CS) (u0 : Nat) (u1 : Nat) (u2 : Int32) (u3 : Int32) (u5 : Int32) (u6 : Int32) (u7 : Int32) (u8 : Int32) (u9 : Int32) (u10 : Int32) (u11 : Int32), c_X4_group_L136 F lf_136 cs1 u0 u1 u2 u3 u5 u6 u7 u8 u9 u10 u11 = some (cs9, r9) → kK cs ≤ kK cs1 → kM cs ≤ kM cs1 → ∀ (Gh H : Heap) (locs : List Loc) (ls : Array Slot), va_P (dC, dI) vwCl (cW cB cI cJ cZ cS cO b cs1) H → va_D A (cW cB cI cJ cZ cS cO b cs1) → va_S A s.heap Gh [] → Gh.size = b + kK cs1 → va_S A Gh H locs → lv_has ls 13 [(0, .ref (b + u0)), (1, .ref (b + u1)), (2, .int u2), (3, .int u3), (5, .int u5), (6, .int u6), (7, .int u7), (8, .int u8), (9, .int u9), (10, .int u10), (11, .int u11)] → W p l e (headSpec (wsOf yX4_group cX4_group 13 (some .int)) ({ frames := 6, cells := kK cs9 - kK cs, slots := kM cs9 - kM cs, locals := 60 * (6) } : Room)).room s m ([.ref (b + x0), .ref (b + x1), .int x2, .int x3, .int x4] : List Value).toArray below meth c H locs (kK cs1 - kK cs) (kM cs1 - kM cs) (MQ below (va_Qi (fun (x : Int32) (_ : Unit) => x = r9) (fun _ t_ => va_P (dC, dI) vwCl (cW cB cI cJ cZ cS cO b cs9) t_.heap ∧ va_D A (cW cB cI cJ cZ cS cO b cs9) ∧ b + kK cs9 ≤ t_.heap.size) A) ([.ref (b + x0), .ref (b + x1), .int x2, .int x3, .int x4] : List Value).toArray s (kK cs9 - kK cs) (kM cs9 - kM cs) A) (F0 m 136 ls []) := by
    intro lf_136
    induction lf_136 with
    | zero => intro cs1 u0 u1 u2 u3 u5 u6 u7 u8 u9 u10 u11 h; cases (show (none : Option (CS × Int32)) = _ from h)
    | succ lf_136 ih_136 =>
      have B_212 : ∀ (cs1 : CS) (u0 : Nat) (u1 : Nat) (u2 : Int32) (u3 : Int32) (u5 : Int32) (u6 : Int32) (u7 : Int32) (u8 : Int32) (u9 : Int32) (u10 : Int32) (u11 : Int32), c_X4_group_b212 F (c_X4_group_L136 F lf_136) cs1 u0 u1 u2 u3 u5 u6 u7 u8 u9 u10 u11 = some (cs9, r9) → kK cs ≤ kK cs1 → kM cs ≤ kM cs1 → ∀ (Gh H : Heap) (locs : List Loc) (ls : Array Slot), va_P (dC, dI) vwCl (cW cB cI cJ cZ cS cO b cs1) H → va_D A (cW cB cI cJ cZ cS cO b cs1) → va_S A s.heap Gh [] → Gh.size = b + kK cs1 → va_S A Gh H locs → lv_has ls 13 [(0, .ref (b + u0)), (1, .ref (b + u1)), (2, .int u2), (3, .int u3), (5, .int u5), (6, .int u6), (7, .int u7), (8, .int u8), (9, .int u9), (10, .int u10), (11, .int u11)] → W p l e (headSpec (wsOf yX4_group cX4_group 13 (some .int)) ({ frames := 6, cells := kK cs9 - kK cs, slots := kM cs9 - kM cs, locals := 60 * (6) } : Room)).room s m ([.ref (b + x0), .ref (b + x1), .int x2, .int x3, .int x4] : List Value).toArray below meth c H locs (kK cs1 - kK cs) (kM cs1 - kM cs) (MQ below (va_Qi (fun (x : Int32) (_ : Unit) => x = r9) (fun _ t_ => va_P (dC, dI) vwCl (cW cB cI cJ cZ cS cO b cs9) t_.heap ∧ va_D A (cW cB cI cJ cZ cS cO b cs9) ∧ b + kK cs9 ≤ t_.heap.size) A) ([.ref (b + x0), .ref (b + x1), .int x2, .int x3, .int x4] : List Value).toArray s (kK cs9 - kK cs) (kM cs9 - kM cs) A) (F0 m 212 ls []) := by
        intro cs1 u0 u1 u2 u3 u5 u6 u7 u8 u9 u10 u11 h hmk hmm Gh H locs ls hP hD hG hgz hS hl
        obtain ⟨kb9, mb9⟩ := mo_c_X4_group_b212 F (c_X4_group_L136 F lf_136) (mo_c_X4_group_L136 F lf_136) cs1 u0 u1 u2 u3 u5 u6 u7 u8 u9 u10 u11 cs9 r9 h
        unfold c_X4_group_b212 at h
        refine lv_iinc (v := u11 + 1) (lv' := [(11, .int (u11 + 1)), (0, .ref (b + u0)), (1, .ref (b + u1)), (2, .int u2), (3, .int u3), (5, .int u5), (6, .int u6), (7, .int u7), (8, .int u8), (9, .int u9), (10, .int u10)]) hx hb dX4_group_212 hl (k := 10) rfl rfl (by decide) rfl (fun ls hl => ?_)
        refine lv_goto (tgt := 136) hx hb dX4_group_215 (by decide) ?_
        refine W_cnt (c2 := kK cs1 - kK cs) (n2 := kM cs1 - kM cs) (by omega) (by omega) ?_
        exact ih_136 cs1 u0 u1 u2 u3 u5 u6 u7 u8 u9 u10 (u11 + 1) h (by omega) (by omega) _ _ _ _ hP hD hG (by omega) hS (lv_sub hl [1, 2, 3, 4, 5, 6, 7, 8, 9, 10, 0] rfl)
      have B_205 : ∀ (cs1 : CS) (u0 : Nat) (u1 : Nat) (u2 : Int32) (u3 : Int32) (u5 : Int32) (u6 : Int32) (u7 : Int32) (u8 : Int32) (u9 : Int32) (u11 : Int32), c_X4_group_b205 F (c_X4_group_L136 F lf_136) cs1 u0 u1 u2 u3 u5 u6 u7 u8 u9 u11 = some (cs9, r9) → kK cs ≤ kK cs1 → kM cs ≤ kM cs1 → ∀ (Gh H : Heap) (locs : List Loc) (ls : Array Slot), va_P (dC, dI) vwCl (cW cB cI cJ cZ cS cO b cs1) H → va_D A (cW cB cI cJ cZ cS cO b cs1) → va_S A s.heap Gh [] → Gh.size = b + kK cs1 → va_S A Gh H locs → lv_has ls 13 [(0, .ref (b + u0)), (1, .ref (b + u1)), (2, .int u2), (3, .int u3), (5, .int u5), (6, .int u6), (7, .int u7), (8, .int u8), (9, .int u9), (11, .int u11)] → W p l e (headSpec (wsOf yX4_group cX4_group 13 (some .int)) ({ frames := 6, cells := kK cs9 - kK cs, slots := kM cs9 - kM cs, locals := 60 * (6) } : Room)).room s m ([.ref (b + x0), .ref (b + x1), .int x2, .int x3, .int x4] : List Value).toArray below meth c H locs (kK cs1 - kK cs) (kM cs1 - kM cs) (MQ below (va_Qi (fun (x : Int32) (_ : Unit) => x = r9) (fun _ t_ => va_P (dC, dI) vwCl (cW cB cI cJ cZ cS cO b cs9) t_.heap ∧ va_D A (cW cB cI cJ cZ cS cO b cs9) ∧ b + kK cs9 ≤ t_.heap.size) A) ([.ref (b + x0), .ref (b + x1), .int x2, .int x3, .int x4] : List Value).toArray s (kK cs9 - kK cs) (kM cs9 - kM cs) A) (F0 m 205 ls []) := by
        intro cs1 u0 u1 u2 u3 u5 u6 u7 u8 u9 u11 h hmk hmm Gh H locs ls hP hD hG hgz hS hl
        obtain ⟨kb9, mb9⟩ := mo_c_X4_group_b205 F (c_X4_group_L136 F lf_136) (mo_c_X4_group_L136 F lf_136) cs1 u0 u1 u2 u3 u5 u6 u7 u8 u9 u11 cs9 r9 h
        unfold c_X4_group_b205 at h
        refine lv_iinc (v := u9 + 1) (lv' := [(9, .int (u9 + 1)), (0, .ref (b + u0)), (1, .ref (b + u1)), (2, .int u2), (3, .int u3), (5, .int u5), (6, .int u6), (7, .int u7), (8, .int u8), (11, .int u11)]) hx hb dX4_group_205 hl (k := 8) rfl rfl (by decide) rfl (fun ls hl => ?_)
        refine lv_iload hx hb dX4_group_208 (lv_at hl 9 rfl) ?_
        refine lv_istore (lv' := [(10, .int u11), (9, .int (u9 + 1)), (0, .ref (b + u0)), (1, .ref (b + u1)), (2, .int u2), (3, .int u3), (5, .int u5), (6, .int u6), (7, .int u7), (8, .int u8), (11, .int u11)]) hx hb dX4_group_210 hl (by decide) rfl (fun ls hl => ?_)
        refine W_cnt (c2 := kK cs1 - kK cs) (n2 := kM cs1 - kM cs) (by omega) (by omega) ?_
        exact B_212 cs1 u0 u1 u2 u3 u5 u6 u7 u8 (u9 + 1) u11 u11 h (by omega) (by omega) _ _ _ _ hP hD hG (by omega) hS (lv_sub hl [2, 3, 4, 5, 6, 7, 8, 9, 1, 0, 10] rfl)
      have B_185 : ∀ (cs1 : CS) (u0 : Nat) (u1 : Nat) (u2 : Int32) (u3 : Int32) (u5 : Int32) (u6 : Int32) (u7 : Int32) (u8 : Int32) (u9 : Int32) (u10 : Int32) (u11 : Int32) (u12 : Int32), c_X4_group_b185 F (c_X4_group_L136 F lf_136) cs1 u0 u1 u2 u3 u5 u6 u7 u8 u9 u10 u11 u12 = some (cs9, r9) → kK cs ≤ kK cs1 → kM cs ≤ kM cs1 → ∀ (Gh H : Heap) (locs : List Loc) (ls : Array Slot), va_P (dC, dI) vwCl (cW cB cI cJ cZ cS cO b cs1) H → va_D A (cW cB cI cJ cZ cS cO b cs1) → va_S A s.heap Gh [] → Gh.size = b + kK cs1 → va_S A Gh H locs → lv_has ls 13 [(0, .ref (b + u0)), (1, .ref (b + u1)), (2, .int u2), (3, .int u3), (5, .int u5), (6, .int u6), (7, .int u7), (8, .int u8), (9, .int u9), (10, .int u10), (11, .int u11), (12, .int u12)] → W p l e (headSpec (wsOf yX4_group cX4_group 13 (some .int)) ({ frames := 6, cells := kK cs9 - kK cs, slots := kM cs9 - kM cs, locals := 60 * (6) } : Room)).room s m ([.ref (b + x0), .ref (b + x1), .int x2, .int x3, .int x4] : List Value).toArray below meth c H locs (kK cs1 - kK cs) (kM cs1 - kM cs) (MQ below (va_Qi (fun (x : Int32) (_ : Unit) => x = r9) (fun _ t_ => va_P (dC, dI) vwCl (cW cB cI cJ cZ cS cO b cs9) t_.heap ∧ va_D A (cW cB cI cJ cZ cS cO b cs9) ∧ b + kK cs9 ≤ t_.heap.size) A) ([.ref (b + x0), .ref (b + x1), .int x2, .int x3, .int x4] : List Value).toArray s (kK cs9 - kK cs) (kM cs9 - kM cs) A) (F0 m 185 ls []) := by
        intro cs1 u0 u1 u2 u3 u5 u6 u7 u8 u9 u10 u11 u12 h hmk hmm Gh H locs ls hP hD hG hgz hS hl
        obtain ⟨kb9, mb9⟩ := mo_c_X4_group_b185 F (c_X4_group_L136 F lf_136) (mo_c_X4_group_L136 F lf_136) cs1 u0 u1 u2 u3 u5 u6 u7 u8 u9 u10 u11 u12 cs9 r9 h
        unfold c_X4_group_b185 at h
        refine lv_aload_n hx hb dX4_group_185 rfl (lv_at hl 0 rfl) ?_
        refine lv_aload_n hx hb dX4_group_186 rfl (lv_at hl 1 rfl) ?_
        refine lv_iload hx hb dX4_group_187 (lv_at hl 11 rfl) ?_
        refine lv_iload hx hb dX4_group_189 (lv_at hl 10 rfl) ?_
        refine lv_iload hx hb dX4_group_191 (lv_at hl 9 rfl) ?_
        refine lv_isub hx hb dX4_group_193 ?_
        refine lv_iload hx hb dX4_group_194 (lv_at hl 7 rfl) ?_
        refine lv_iload hx hb dX4_group_196 (lv_at hl 8 rfl) ?_
        refine lv_iload hx hb dX4_group_198 (lv_at hl 5 rfl) ?_
        refine lv_imul hx hb dX4_group_200 ?_
        refine lv_iadd hx hb dX4_group_201 ?_
        replace h := ob h; obtain ⟨w_6, hw_6, h⟩ := h
        replace h := ob h; obtain ⟨cs_5, hv_5, h⟩ := h
        obtain ⟨qk_5, qm_5⟩ := mo_c_X4_fold F cs1 u0 u1 u12 (u11 - u10) (u8 + (u9 * u6)) cs_5 hv_5
        obtain ⟨k9_5, m9_5⟩ := mo_c_X4_group_b205 F (c_X4_group_L136 F lf_136) (mo_c_X4_group_L136 F lf_136) cs_5 u0 u1 u2 u3 u5 u6 u7 u8 u9 u11 cs9 r9 h
        refine cavV (As := [.ref (b + u1), .int u12, .int (u11 - u10), .int (u8 + (u9 * u6))]) hx hb hml hts hown hK hP hD hS hG hA (by omega) (by omega) hZ (X := 5) (by decide) rfl (ckE_some hw_6) (sa_X4_fold l dC dI cB cI cJ cZ cS cO b K V fz F cs1 u0 u1 u12 (u11 - u10) (u8 + (u9 * u6)) cs_5 hv_5) (cw_X4_X4_fold hts (fr := 5) (Nat.le_of_ble_eq_true rfl) (Nat.le_of_ble_eq_true rfl)) rfl hl.1 (Nat.le_of_ble_eq_true rfl) ⟨by show kK cs1 - kK cs + (kK cs_5 - kK cs1) ≤ kK cs9 - kK cs; omega, by show kM cs1 - kM cs + (kM cs_5 - kM cs1) ≤ kM cs9 - kM cs; omega⟩ dX4_group_202 (fun H locs hP hD hG hgz hS => ?_)
        refine W_cnt (c2 := kK cs_5 - kK cs) (n2 := kM cs_5 - kM cs) (by omega) (by omega) ?_
        exact B_205 cs_5 u0 u1 u2 u3 u5 u6 u7 u8 u9 u11 h (by omega) (by omega) _ _ _ _ hP hD hG (by omega) hS (lv_sub hl [0, 1, 2, 3, 4, 5, 6, 7, 8, 10] rfl)
      intro cs1 u0 u1 u2 u3 u5 u6 u7 u8 u9 u10 u11 h hmk hmm Gh H locs ls hP hD hG hgz hS hl
      obtain ⟨kb9, mb9⟩ := mo_c_X4_group_L136 F (lf_136 + 1) cs1 u0 u1 u2 u3 u5 u6 u7 u8 u9 u10 u11 cs9 r9 h
      rw [c_X4_group_L136] at h
      refine lv_iload hx hb dX4_group_136 (lv_at hl 10 rfl) ?_
      refine lv_iload_n hx hb dX4_group_138 rfl (lv_at hl 3 rfl) ?_
      refine lv_icmp_gt (tgt := 218) hx hb dX4_group_139 (by decide) (fun c_7 => ?_) (fun c_7 => ?_)
      · skip
        replace h := (if_pos c_7).symm.trans h
        refine lv_iload hx hb dX4_group_218 (lv_at hl 8 rfl) ?_
        refine lv_if_ne (tgt := 241) hx hb dX4_group_220 (by decide) (fun c_8 => ?_) (fun c_8 => ?_)
        · skip
          replace h := (if_neg c_8).symm.trans h
          refine W_cnt (c2 := kK cs1 - kK cs) (n2 := kM cs1 - kM cs) (by omega) (by omega) ?_
          exact B_241 cs1 u0 u2 u6 u8 u9 h (by omega) (by omega) _ _ _ _ hP hD hG (by omega) hS (lv_sub hl [0, 2, 5, 7, 8] rfl)
        · skip
          replace h := (if_pos c_8).symm.trans h
          refine lv_iload hx hb dX4_group_223 (lv_at hl 4 rfl) ?_
          refine lv_if_ne (tgt := 241) hx hb dX4_group_225 (by decide) (fun c_9 => ?_) (fun c_9 => ?_)
          · skip
            replace h := (if_neg c_9).symm.trans h
            refine W_cnt (c2 := kK cs1 - kK cs) (n2 := kM cs1 - kM cs) (by omega) (by omega) ?_
            exact B_241 cs1 u0 u2 u6 u8 u9 h (by omega) (by omega) _ _ _ _ hP hD hG (by omega) hS (lv_sub hl [0, 2, 5, 7, 8] rfl)
          · skip
            replace h := (if_pos c_9).symm.trans h
            refine lv_aload_n hx hb dX4_group_228 rfl (lv_at hl 0 rfl) ?_
            refine lv_aload_n hx hb dX4_group_229 rfl (lv_at hl 1 rfl) ?_
            refine lv_iload hx hb dX4_group_230 (lv_at hl 6 rfl) ?_
            refine lv_iconst (v := 0) hx hb dX4_group_232 (by decide) ?_
            refine lv_iload hx hb dX4_group_233 (lv_at hl 7 rfl) ?_
            replace h := ob h; obtain ⟨w_11, hw_11, h⟩ := h
            replace h := ob h; obtain ⟨cs_10, hv_10, h⟩ := h
            obtain ⟨qk_10, qm_10⟩ := mo_c_X4_fold F cs1 u0 u1 u7 0 u8 cs_10 hv_10
            obtain ⟨k9_10, m9_10⟩ := mo_c_X4_group_b238 F cs_10 u0 u2 u6 u8 cs9 r9 h
            refine cavV (As := [.ref (b + u1), .int u7, .int 0, .int u8]) hx hb hml hts hown hK hP hD hS hG hA (by omega) (by omega) hZ (X := 5) (by decide) rfl (ckE_some hw_11) (sa_X4_fold l dC dI cB cI cJ cZ cS cO b K V fz F cs1 u0 u1 u7 0 u8 cs_10 hv_10) (cw_X4_X4_fold hts (fr := 5) (Nat.le_of_ble_eq_true rfl) (Nat.le_of_ble_eq_true rfl)) rfl hl.1 (Nat.le_of_ble_eq_true rfl) ⟨by show kK cs1 - kK cs + (kK cs_10 - kK cs1) ≤ kK cs9 - kK cs; omega, by show kM cs1 - kM cs + (kM cs_10 - kM cs1) ≤ kM cs9 - kM cs; omega⟩ dX4_group_235 (fun H locs hP hD hG hgz hS => ?_)
            refine W_cnt (c2 := kK cs_10 - kK cs) (n2 := kM cs_10 - kM cs) (by omega) (by omega) ?_
            exact B_238 cs_10 u0 u2 u6 u8 h (by omega) (by omega) _ _ _ _ hP hD hG (by omega) hS (lv_sub hl [0, 2, 5, 7] rfl)
      · skip
        replace h := (if_neg c_7).symm.trans h
        refine lv_iload hx hb dX4_group_142 (lv_at hl 6 rfl) ?_
        refine lv_iload hx hb dX4_group_144 (lv_at hl 9 rfl) ?_
        refine lv_iload hx hb dX4_group_146 (lv_at hl 5 rfl) ?_
        refine lv_imul hx hb dX4_group_148 ?_
        refine lv_iadd hx hb dX4_group_149 ?_
        refine lv_istore (lv' := [(12, .int (u7 + (u10 * u6))), (0, .ref (b + u0)), (1, .ref (b + u1)), (2, .int u2), (3, .int u3), (5, .int u5), (6, .int u6), (7, .int u7), (8, .int u8), (9, .int u9), (10, .int u10), (11, .int u11)]) hx hb dX4_group_150 hl (by decide) rfl (fun ls hl => ?_)
        refine lv_iload hx hb dX4_group_152 (lv_at hl 11 rfl) ?_
        refine lv_iload_n hx hb dX4_group_154 rfl (lv_at hl 4 rfl) ?_
        refine lv_icmp_eq (tgt := 185) hx hb dX4_group_155 (by decide) (fun c_12 => ?_) (fun c_12 => ?_)
        · skip
          replace h := (if_pos c_12).symm.trans h
          refine W_cnt (c2 := kK cs1 - kK cs) (n2 := kM cs1 - kM cs) (by omega) (by omega) ?_
          exact B_185 cs1 u0 u1 u2 u3 u5 u6 u7 u8 u9 u10 u11 (u7 + (u10 * u6)) h (by omega) (by omega) _ _ _ _ hP hD hG (by omega) hS (lv_sub hl [1, 2, 3, 4, 5, 6, 7, 8, 9, 10, 11, 0] rfl)
        · skip
          replace h := (if_neg c_12).symm.trans h
          refine lv_aload_n hx hb dX4_group_158 rfl (lv_at hl 1 rfl) ?_
          replace h := ob h; obtain ⟨v_13, hv_13, h⟩ := h
          refine fg_X4_19 hx hb hts hown hK hP hv_13 dX4_group_159 ?_
          refine lv_iload hx hb dX4_group_162 (lv_at hl 0 rfl) ?_
          refine lv_aload_n hx hb dX4_group_164 rfl (lv_at hl 1 rfl) ?_
          replace h := ob h; obtain ⟨v_14, hv_14, h⟩ := h
          refine fg_X4_19 hx hb hts hown hK hP hv_14 dX4_group_165 ?_
          refine lv_iload hx hb dX4_group_168 (lv_at hl 7 rfl) ?_
          refine lv_iload hx hb dX4_group_170 (lv_at hl 11 rfl) ?_
          refine lv_iload hx hb dX4_group_172 (lv_at hl 6 rfl) ?_
          refine lv_imul hx hb dX4_group_174 ?_
          refine lv_iadd hx hb dX4_group_175 ?_
          refine lv_iload hx hb dX4_group_176 (lv_at hl 5 rfl) ?_
          refine lv_iconst (v := 0) hx hb dX4_group_178 (by decide) ?_
          replace h := ob h; obtain ⟨i_15, hi_15, h⟩ := h
          subst hi_15
          replace h := ob h; obtain ⟨i_17, hi_17, h⟩ := h
          subst hi_17
          replace h := ob h; obtain ⟨w_18, hw_18, h⟩ := h
          replace h := ob h; obtain ⟨v_16, hv_16, h⟩ := h
          refine cbvI (As := [.int (u7 + (u10 * u6)), .ref (b + i_15), .int (u7 + (u11 * u6)), .int u5, .int 0]) hx hb hml hts hown hK hP hD hS hG hA (by omega) (by omega) hZ (X := 9) (by decide) rfl (ckE_some hw_18) (sc_X8_compareRows l dC dI cB cI cJ cZ cS cO b K V fz F cs1 i_17 (u7 + (u10 * u6)) i_15 (u7 + (u11 * u6)) u5 0 v_16 hv_16) (cw_X4_X8_compareRows hts (fr := 1) (Nat.le_of_ble_eq_true rfl) (Nat.le_of_ble_eq_true rfl)) rfl hl.1 (Nat.le_of_ble_eq_true rfl) ⟨by show kK cs1 - kK cs ≤ kK cs9 - kK cs; omega, by show kM cs1 - kM cs ≤ kM cs9 - kM cs; omega⟩ dX4_group_179 (fun H locs hP hD hG hgz hS => ?_)
          refine lv_if_eq (tgt := 212) hx hb dX4_group_182 (by decide) (fun c_19 => ?_) (fun c_19 => ?_)
          · skip
            replace h := (if_pos c_19).symm.trans h
            refine W_cnt (c2 := kK cs1 - kK cs) (n2 := kM cs1 - kM cs) (by omega) (by omega) ?_
            exact B_212 cs1 u0 u1 u2 u3 u5 u6 u7 u8 u9 u10 u11 h (by omega) (by omega) _ _ _ _ hP hD hG (by omega) hS (lv_sub hl [1, 2, 3, 4, 5, 6, 7, 8, 9, 10, 11] rfl)
          · skip
            replace h := (if_neg c_19).symm.trans h
            refine W_cnt (c2 := kK cs1 - kK cs) (n2 := kM cs1 - kM cs) (by omega) (by omega) ?_
            exact B_185 cs1 u0 u1 u2 u3 u5 u6 u7 u8 u9 u10 u11 (u7 + (u10 * u6)) h (by omega) (by omega) _ _ _ _ hP hD hG (by omega) hS (lv_sub hl [1, 2, 3, 4, 5, 6, 7, 8, 9, 10, 11, 0] rfl)
  have B_127 : ∀ (cs1 : CS) (u0 : Nat) (u1 : Nat) (u2 : Int32) (u3 : Int32) (u5 : Int32) (u6 : Int32) (u7 : Int32) (u8 : Int32), c_X4_group_b127 F cs1 u0 u1 u2 u3 u5 u6 u7 u8 = some (cs9, r9) → kK cs ≤ kK cs1 → kM cs ≤ kM cs1 → ∀ (Gh H : Heap) (locs : List Loc) (ls : Array Slot), va_P (dC, dI) vwCl (cW cB cI cJ cZ cS cO b cs1) H → va_D A (cW cB cI cJ cZ cS cO b cs1) → va_S A s.heap Gh [] → Gh.size = b + kK cs1 → va_S A Gh H locs → lv_has ls 13 [(0, .ref (b + u0)), (1, .ref (b + u1)), (2, .int u2), (3, .int u3), (5, .int u5), (6, .int u6), (7, .int u7), (8, .int u8)] → W p l e (headSpec (wsOf yX4_group cX4_group 13 (some .int)) ({ frames := 6, cells := kK cs9 - kK cs, slots := kM cs9 - kM cs, locals := 60 * (6) } : Room)).room s m ([.ref (b + x0), .ref (b + x1), .int x2, .int x3, .int x4] : List Value).toArray below meth c H locs (kK cs1 - kK cs) (kM cs1 - kM cs) (MQ below (va_Qi (fun (x : Int32) (_ : Unit) => x = r9) (fun _ t_ => va_P (dC, dI) vwCl (cW cB cI cJ cZ cS cO b cs9) t_.heap ∧ va_D A (cW cB cI cJ cZ cS cO b cs9) ∧ b + kK cs9 ≤ t_.heap.size) A) ([.ref (b + x0), .ref (b + x1), .int x2, .int x3, .int x4] : List Value).toArray s (kK cs9 - kK cs) (kM cs9 - kM cs) A) (F0 m 127 ls []) := by
    intro cs1 u0 u1 u2 u3 u5 u6 u7 u8 h hmk hmm Gh H locs ls hP hD hG hgz hS hl
    obtain ⟨kb9, mb9⟩ := mo_c_X4_group_b127 F cs1 u0 u1 u2 u3 u5 u6 u7 u8 cs9 r9 h
    unfold c_X4_group_b127 at h
    refine lv_iconst (v := 0) hx hb dX4_group_127 (by decide) ?_
    refine lv_istore (lv' := [(9, .int 0), (0, .ref (b + u0)), (1, .ref (b + u1)), (2, .int u2), (3, .int u3), (5, .int u5), (6, .int u6), (7, .int u7), (8, .int u8)]) hx hb dX4_group_128 hl (by decide) rfl (fun ls hl => ?_)
    refine lv_iconst (v := 0) hx hb dX4_group_130 (by decide) ?_
    refine lv_istore (lv' := [(10, .int 0), (9, .int 0), (0, .ref (b + u0)), (1, .ref (b + u1)), (2, .int u2), (3, .int u3), (5, .int u5), (6, .int u6), (7, .int u7), (8, .int u8)]) hx hb dX4_group_131 hl (by decide) rfl (fun ls hl => ?_)
    refine lv_iconst (v := 1) hx hb dX4_group_133 (by decide) ?_
    refine lv_istore (lv' := [(11, .int 1), (10, .int 0), (9, .int 0), (0, .ref (b + u0)), (1, .ref (b + u1)), (2, .int u2), (3, .int u3), (5, .int u5), (6, .int u6), (7, .int u7), (8, .int u8)]) hx hb dX4_group_134 hl (by decide) rfl (fun ls hl => ?_)
    refine W_cnt (c2 := kK cs1 - kK cs) (n2 := kM cs1 - kM cs) (by omega) (by omega) ?_
    exact L_136 F cs1 u0 u1 u2 u3 u5 u6 u7 u8 0 0 1 h (by omega) (by omega) _ _ _ _ hP hD hG (by omega) hS (lv_sub hl [3, 4, 5, 6, 7, 8, 9, 10, 2, 1, 0] rfl)
  have B_100 : ∀ (cs1 : CS) (u0 : Nat) (u1 : Nat) (u2 : Int32) (u3 : Int32) (u5 : Int32) (u6 : Int32) (u7 : Int32), c_X4_group_b100 F cs1 u0 u1 u2 u3 u5 u6 u7 = some (cs9, r9) → kK cs ≤ kK cs1 → kM cs ≤ kM cs1 → ∀ (Gh H : Heap) (locs : List Loc) (ls : Array Slot), va_P (dC, dI) vwCl (cW cB cI cJ cZ cS cO b cs1) H → va_D A (cW cB cI cJ cZ cS cO b cs1) → va_S A s.heap Gh [] → Gh.size = b + kK cs1 → va_S A Gh H locs → lv_has ls 13 [(0, .ref (b + u0)), (1, .ref (b + u1)), (2, .int u2), (3, .int u3), (5, .int u5), (6, .int u6), (7, .int u7)] → W p l e (headSpec (wsOf yX4_group cX4_group 13 (some .int)) ({ frames := 6, cells := kK cs9 - kK cs, slots := kM cs9 - kM cs, locals := 60 * (6) } : Room)).room s m ([.ref (b + x0), .ref (b + x1), .int x2, .int x3, .int x4] : List Value).toArray below meth c H locs (kK cs1 - kK cs) (kM cs1 - kM cs) (MQ below (va_Qi (fun (x : Int32) (_ : Unit) => x = r9) (fun _ t_ => va_P (dC, dI) vwCl (cW cB cI cJ cZ cS cO b cs9) t_.heap ∧ va_D A (cW cB cI cJ cZ cS cO b cs9) ∧ b + kK cs9 ≤ t_.heap.size) A) ([.ref (b + x0), .ref (b + x1), .int x2, .int x3, .int x4] : List Value).toArray s (kK cs9 - kK cs) (kM cs9 - kM cs) A) (F0 m 100 ls []) := by
    intro cs1 u0 u1 u2 u3 u5 u6 u7 h hmk hmm Gh H locs ls hP hD hG hgz hS hl
    obtain ⟨kb9, mb9⟩ := mo_c_X4_group_b100 F cs1 u0 u1 u2 u3 u5 u6 u7 cs9 r9 h
    unfold c_X4_group_b100 at h
    refine lv_iload hx hb dX4_group_100 (lv_at hl 6 rfl) ?_
    refine lv_iload_n hx hb dX4_group_102 rfl (lv_at hl 3 rfl) ?_
    refine lv_iload hx hb dX4_group_103 (lv_at hl 5 rfl) ?_
    refine lv_imul hx hb dX4_group_105 ?_
    refine lv_iadd hx hb dX4_group_106 ?_
    refine lv_istore (lv' := [(8, .int (u7 + (u3 * u6))), (0, .ref (b + u0)), (1, .ref (b + u1)), (2, .int u2), (3, .int u3), (5, .int u5), (6, .int u6), (7, .int u7)]) hx hb dX4_group_107 hl (by decide) rfl (fun ls hl => ?_)
    refine lv_aload_n hx hb dX4_group_109 rfl (lv_at hl 1 rfl) ?_
    replace h := ob h; obtain ⟨v_20, hv_20, h⟩ := h
    refine fg_X4_19 hx hb hts hown hK hP hv_20 dX4_group_110 ?_
    refine lv_iload hx hb dX4_group_113 (lv_at hl 0 rfl) ?_
    refine lv_iload_n hx hb dX4_group_115 rfl (lv_at hl 4 rfl) ?_
    refine lv_iconst (v := 1) hx hb dX4_group_116 (by decide) ?_
    refine va_mmax (x := u3) (y := 1) hx hb (hml.trans hl.1.symm) hown (hts _ (List.mem_cons_of_mem _ kw_1505)) (hts _ (List.mem_cons_of_mem _ kw_369)) (hts _ (List.mem_cons_of_mem _ kw_190)) (hts _ (List.mem_cons_of_mem _ kc_max)) (Nat.le_of_ble_eq_true rfl) (by simp only [List.map, List.sum_cons, List.sum_nil, rv_cat]; exact Nat.le_of_ble_eq_true rfl) (by show kK cs1 - kK cs ≤ kK cs9 - kK cs; omega) (by show kM cs1 - kM cs ≤ kM cs9 - kM cs; omega) dX4_group_117 ?_
    refine lv_iload hx hb dX4_group_120 (lv_at hl 6 rfl) ?_
    refine lv_imul hx hb dX4_group_122 ?_
    refine lv_iadd hx hb dX4_group_123 ?_
    replace h := ob h; obtain ⟨i_22, hi_22, h⟩ := h
    subst hi_22
    replace h := ob h; obtain ⟨w_23, hw_23, h⟩ := h
    replace h := ob h; obtain ⟨cs_21, hv_21, h⟩ := h
    obtain ⟨qk_21, qm_21⟩ := mo_c_X8_reserve F cs1 i_22 ((u7 + (u3 * u6)) + ((if u3 < 1 then 1 else u3) * u6)) cs_21 hv_21
    obtain ⟨k9_21, m9_21⟩ := mo_c_X4_group_b127 F cs_21 u0 u1 u2 u3 u5 u6 u7 (u7 + (u3 * u6)) cs9 r9 h
    refine cavV (As := [.int ((u7 + (u3 * u6)) + ((if u3 < 1 then 1 else u3) * u6))]) hx hb hml hts hown hK hP hD hS hG hA (by omega) (by omega) hZ (X := 9) (by decide) rfl (ckE_some hw_23) (sa_X8_reserve l dC dI cB cI cJ cZ cS cO b K V fz F cs1 i_22 ((u7 + (u3 * u6)) + ((if u3 < 1 then 1 else u3) * u6)) cs_21 hv_21) (cw_X4_X8_reserve hts (fr := 3) (Nat.le_of_ble_eq_true rfl) (Nat.le_of_ble_eq_true rfl)) rfl hl.1 (Nat.le_of_ble_eq_true rfl) ⟨by show kK cs1 - kK cs + (kK cs_21 - kK cs1) ≤ kK cs9 - kK cs; omega, by show kM cs1 - kM cs + (kM cs_21 - kM cs1) ≤ kM cs9 - kM cs; omega⟩ dX4_group_124 (fun H locs hP hD hG hgz hS => ?_)
    refine W_cnt (c2 := kK cs_21 - kK cs) (n2 := kM cs_21 - kM cs) (by omega) (by omega) ?_
    exact B_127 cs_21 u0 u1 u2 u3 u5 u6 u7 (u7 + (u3 * u6)) h (by omega) (by omega) _ _ _ _ hP hD hG (by omega) hS (lv_sub hl [1, 2, 3, 4, 5, 6, 7, 0] rfl)
  have L_29 : ∀ (lf_29 : Nat), ∀ (cs1 : CS) (u0 : Nat) (u1 : Nat) (u2 : Int32) (u3 : Int32) (u4 : Int32) (u5 : Int32) (u6 : Int32) (u7 : Int32) (u8 : Int32), c_X4_group_L29 F lf_29 cs1 u0 u1 u2 u3 u4 u5 u6 u7 u8 = some (cs9, r9) → kK cs ≤ kK cs1 → kM cs ≤ kM cs1 → ∀ (Gh H : Heap) (locs : List Loc) (ls : Array Slot), va_P (dC, dI) vwCl (cW cB cI cJ cZ cS cO b cs1) H → va_D A (cW cB cI cJ cZ cS cO b cs1) → va_S A s.heap Gh [] → Gh.size = b + kK cs1 → va_S A Gh H locs → lv_has ls 13 [(0, .ref (b + u0)), (1, .ref (b + u1)), (2, .int u2), (3, .int u3), (4, .int u4), (5, .int u5), (6, .int u6), (7, .int u7), (8, .int u8)] → W p l e (headSpec (wsOf yX4_group cX4_group 13 (some .int)) ({ frames := 6, cells := kK cs9 - kK cs, slots := kM cs9 - kM cs, locals := 60 * (6) } : Room)).room s m ([.ref (b + x0), .ref (b + x1), .int x2, .int x3, .int x4] : List Value).toArray below meth c H locs (kK cs1 - kK cs) (kM cs1 - kM cs) (MQ below (va_Qi (fun (x : Int32) (_ : Unit) => x = r9) (fun _ t_ => va_P (dC, dI) vwCl (cW cB cI cJ cZ cS cO b cs9) t_.heap ∧ va_D A (cW cB cI cJ cZ cS cO b cs9) ∧ b + kK cs9 ≤ t_.heap.size) A) ([.ref (b + x0), .ref (b + x1), .int x2, .int x3, .int x4] : List Value).toArray s (kK cs9 - kK cs) (kM cs9 - kM cs) A) (F0 m 29 ls []) := by
    intro lf_29
    induction lf_29 with
    | zero => intro cs1 u0 u1 u2 u3 u4 u5 u6 u7 u8 h; cases (show (none : Option (CS × Int32)) = _ from h)
    | succ lf_29 ih_29 =>
      have B_81 : ∀ (cs1 : CS) (u0 : Nat) (u1 : Nat) (u2 : Int32) (u3 : Int32) (u4 : Int32) (u5 : Int32) (u6 : Int32) (u7 : Int32) (u8 : Int32), c_X4_group_b81 F (c_X4_group_L29 F lf_29) cs1 u0 u1 u2 u3 u4 u5 u6 u7 u8 = some (cs9, r9) → kK cs ≤ kK cs1 → kM cs ≤ kM cs1 → ∀ (Gh H : Heap) (locs : List Loc) (ls : Array Slot), va_P (dC, dI) vwCl (cW cB cI cJ cZ cS cO b cs1) H → va_D A (cW cB cI cJ cZ cS cO b cs1) → va_S A s.heap Gh [] → Gh.size = b + kK cs1 → va_S A Gh H locs → lv_has ls 13 [(0, .ref (b + u0)), (1, .ref (b + u1)), (2, .int u2), (3, .int u3), (4, .int u4), (5, .int u5), (6, .int u6), (7, .int u7), (8, .int u8)] → W p l e (headSpec (wsOf yX4_group cX4_group 13 (some .int)) ({ frames := 6, cells := kK cs9 - kK cs, slots := kM cs9 - kM cs, locals := 60 * (6) } : Room)).room s m ([.ref (b + x0), .ref (b + x1), .int x2, .int x3, .int x4] : List Value).toArray below meth c H locs (kK cs1 - kK cs) (kM cs1 - kM cs) (MQ below (va_Qi (fun (x : Int32) (_ : Unit) => x = r9) (fun _ t_ => va_P (dC, dI) vwCl (cW cB cI cJ cZ cS cO b cs9) t_.heap ∧ va_D A (cW cB cI cJ cZ cS cO b cs9) ∧ b + kK cs9 ≤ t_.heap.size) A) ([.ref (b + x0), .ref (b + x1), .int x2, .int x3, .int x4] : List Value).toArray s (kK cs9 - kK cs) (kM cs9 - kM cs) A) (F0 m 81 ls []) := by
        intro cs1 u0 u1 u2 u3 u4 u5 u6 u7 u8 h hmk hmm Gh H locs ls hP hD hG hgz hS hl
        obtain ⟨kb9, mb9⟩ := mo_c_X4_group_b81 F (c_X4_group_L29 F lf_29) (mo_c_X4_group_L29 F lf_29) cs1 u0 u1 u2 u3 u4 u5 u6 u7 u8 cs9 r9 h
        unfold c_X4_group_b81 at h
        refine lv_iinc (v := u8 + 1) (lv' := [(8, .int (u8 + 1)), (0, .ref (b + u0)), (1, .ref (b + u1)), (2, .int u2), (3, .int u3), (4, .int u4), (5, .int u5), (6, .int u6), (7, .int u7)]) hx hb dX4_group_81 hl (k := 8) rfl rfl (by decide) rfl (fun ls hl => ?_)
        refine lv_goto (tgt := 29) hx hb dX4_group_84 (by decide) ?_
        refine W_cnt (c2 := kK cs1 - kK cs) (n2 := kM cs1 - kM cs) (by omega) (by omega) ?_
        exact ih_29 cs1 u0 u1 u2 u3 u4 u5 u6 u7 (u8 + 1) h (by omega) (by omega) _ _ _ _ hP hD hG (by omega) hS (lv_sub hl [1, 2, 3, 4, 5, 6, 7, 8, 0] rfl)
      have B_58 : ∀ (cs1 : CS) (u0 : Nat) (u1 : Nat) (u2 : Int32) (u3 : Int32) (u4 : Int32) (u5 : Int32) (u6 : Int32) (u7 : Int32) (u8 : Int32), c_X4_group_b58 F (c_X4_group_L29 F lf_29) cs1 u0 u1 u2 u3 u4 u5 u6 u7 u8 = some (cs9, r9) → kK cs ≤ kK cs1 → kM cs ≤ kM cs1 → ∀ (Gh H : Heap) (locs : List Loc) (ls : Array Slot), va_P (dC, dI) vwCl (cW cB cI cJ cZ cS cO b cs1) H → va_D A (cW cB cI cJ cZ cS cO b cs1) → va_S A s.heap Gh [] → Gh.size = b + kK cs1 → va_S A Gh H locs → lv_has ls 13 [(0, .ref (b + u0)), (1, .ref (b + u1)), (2, .int u2), (3, .int u3), (4, .int u4), (5, .int u5), (6, .int u6), (7, .int u7), (8, .int u8)] → W p l e (headSpec (wsOf yX4_group cX4_group 13 (some .int)) ({ frames := 6, cells := kK cs9 - kK cs, slots := kM cs9 - kM cs, locals := 60 * (6) } : Room)).room s m ([.ref (b + x0), .ref (b + x1), .int x2, .int x3, .int x4] : List Value).toArray below meth c H locs (kK cs1 - kK cs) (kM cs1 - kM cs) (MQ below (va_Qi (fun (x : Int32) (_ : Unit) => x = r9) (fun _ t_ => va_P (dC, dI) vwCl (cW cB cI cJ cZ cS cO b cs9) t_.heap ∧ va_D A (cW cB cI cJ cZ cS cO b cs9) ∧ b + kK cs9 ≤ t_.heap.size) A) ([.ref (b + x0), .ref (b + x1), .int x2, .int x3, .int x4] : List Value).toArray s (kK cs9 - kK cs) (kM cs9 - kM cs) A) (F0 m 58 ls []) := by
        intro cs1 u0 u1 u2 u3 u4 u5 u6 u7 u8 h hmk hmm Gh H locs ls hP hD hG hgz hS hl
        obtain ⟨kb9, mb9⟩ := mo_c_X4_group_b58 F (c_X4_group_L29 F lf_29) (mo_c_X4_group_L29 F lf_29) cs1 u0 u1 u2 u3 u4 u5 u6 u7 u8 cs9 r9 h
        unfold c_X4_group_b58 at h
        refine lv_aload_n hx hb dX4_group_58 rfl (lv_at hl 0 rfl) ?_
        refine lv_aload_n hx hb dX4_group_59 rfl (lv_at hl 1 rfl) ?_
        refine lv_iload_n hx hb dX4_group_60 rfl (lv_at hl 2 rfl) ?_
        refine lv_iload hx hb dX4_group_61 (lv_at hl 8 rfl) ?_
        refine lv_iload hx hb dX4_group_63 (lv_at hl 4 rfl) ?_
        refine lv_imul hx hb dX4_group_65 ?_
        refine lv_iadd hx hb dX4_group_66 ?_
        refine lv_iload hx hb dX4_group_67 (lv_at hl 7 rfl) ?_
        refine lv_iload hx hb dX4_group_69 (lv_at hl 8 rfl) ?_
        refine lv_iload hx hb dX4_group_71 (lv_at hl 6 rfl) ?_
        refine lv_imul hx hb dX4_group_73 ?_
        refine lv_iadd hx hb dX4_group_74 ?_
        refine lv_iload hx hb dX4_group_75 (lv_at hl 5 rfl) ?_
        refine lv_iadd hx hb dX4_group_77 ?_
        replace h := ob h; obtain ⟨w_25, hw_25, h⟩ := h
        replace h := ob h; obtain ⟨cs_24, hv_24, h⟩ := h
        obtain ⟨qk_24, qm_24⟩ := mo_c_X4_computeInsides F cs1 u0 u1 (u2 + (u8 * u4)) ((u7 + (u8 * u6)) + u5) cs_24 hv_24
        obtain ⟨k9_24, m9_24⟩ := mo_c_X4_group_b81 F (c_X4_group_L29 F lf_29) (mo_c_X4_group_L29 F lf_29) cs_24 u0 u1 u2 u3 u4 u5 u6 u7 u8 cs9 r9 h
        refine cavV (As := [.ref (b + u1), .int (u2 + (u8 * u4)), .int ((u7 + (u8 * u6)) + u5)]) hx hb hml hts hown hK hP hD hS hG hA (by omega) (by omega) hZ (X := 5) (by decide) rfl (ckE_some hw_25) (sa_X4_computeInsides l dC dI cB cI cJ cZ cS cO b K V fz F cs1 u0 u1 (u2 + (u8 * u4)) ((u7 + (u8 * u6)) + u5) cs_24 hv_24) (cw_X4_X4_computeInsides hts (fr := 5) (Nat.le_of_ble_eq_true rfl) (Nat.le_of_ble_eq_true rfl)) rfl hl.1 (Nat.le_of_ble_eq_true rfl) ⟨by show kK cs1 - kK cs + (kK cs_24 - kK cs1) ≤ kK cs9 - kK cs; omega, by show kM cs1 - kM cs + (kM cs_24 - kM cs1) ≤ kM cs9 - kM cs; omega⟩ dX4_group_78 (fun H locs hP hD hG hgz hS => ?_)
        refine W_cnt (c2 := kK cs_24 - kK cs) (n2 := kM cs_24 - kM cs) (by omega) (by omega) ?_
        exact B_81 cs_24 u0 u1 u2 u3 u4 u5 u6 u7 u8 h (by omega) (by omega) _ _ _ _ hP hD hG (by omega) hS (lv_sub hl [0, 1, 2, 3, 4, 5, 6, 7, 8] rfl)
      intro cs1 u0 u1 u2 u3 u4 u5 u6 u7 u8 h hmk hmm Gh H locs ls hP hD hG hgz hS hl
      obtain ⟨kb9, mb9⟩ := mo_c_X4_group_L29 F (lf_29 + 1) cs1 u0 u1 u2 u3 u4 u5 u6 u7 u8 cs9 r9 h
      rw [c_X4_group_L29] at h
      refine lv_iload hx hb dX4_group_29 (lv_at hl 8 rfl) ?_
      refine lv_iload_n hx hb dX4_group_31 rfl (lv_at hl 3 rfl) ?_
      refine lv_icmp_ge (tgt := 87) hx hb dX4_group_32 (by decide) (fun c_26 => ?_) (fun c_26 => ?_)
      · skip
        replace h := (if_pos c_26).symm.trans h
        refine lv_aload_n hx hb dX4_group_87 rfl (lv_at hl 0 rfl) ?_
        replace h := ob h; obtain ⟨v_27, hv_27, h⟩ := h
        refine fg_X4_19 hx hb hts hown hK hP hv_27 dX4_group_88 ?_
        refine lv_iload hx hb dX4_group_91 (lv_at hl 7 rfl) ?_
        refine lv_iload_n hx hb dX4_group_93 rfl (lv_at hl 3 rfl) ?_
        refine lv_iload hx hb dX4_group_94 (lv_at hl 6 rfl) ?_
        refine lv_iconst (v := 0) hx hb dX4_group_96 (by decide) ?_
        replace h := ob h; obtain ⟨i_29, hi_29, h⟩ := h
        subst hi_29
        replace h := ob h; obtain ⟨w_30, hw_30, h⟩ := h
        replace h := ob h; obtain ⟨cs_28, hv_28, h⟩ := h
        obtain ⟨qk_28, qm_28⟩ := mo_c_X8_sort F cs1 i_29 u7 u3 u6 0 cs_28 hv_28
        obtain ⟨k9_28, m9_28⟩ := mo_c_X4_group_b100 F cs_28 u0 u1 u2 u3 u5 u6 u7 cs9 r9 h
        refine cavV (As := [.int u7, .int u3, .int u6, .int 0]) hx hb hml hts hown hK hP hD hS hG hA (by omega) (by omega) hZ (X := 9) (by decide) rfl (ckE_some hw_30) (sa_X8_sort l dC dI cB cI cJ cZ cS cO b K V fz F cs1 i_29 u7 u3 u6 0 cs_28 hv_28) (cw_X4_X8_sort hts (fr := 5) (Nat.le_of_ble_eq_true rfl) (Nat.le_of_ble_eq_true rfl)) rfl hl.1 (Nat.le_of_ble_eq_true rfl) ⟨by show kK cs1 - kK cs + (kK cs_28 - kK cs1) ≤ kK cs9 - kK cs; omega, by show kM cs1 - kM cs + (kM cs_28 - kM cs1) ≤ kM cs9 - kM cs; omega⟩ dX4_group_97 (fun H locs hP hD hG hgz hS => ?_)
        refine W_cnt (c2 := kK cs_28 - kK cs) (n2 := kM cs_28 - kM cs) (by omega) (by omega) ?_
        exact B_100 cs_28 u0 u1 u2 u3 u5 u6 u7 h (by omega) (by omega) _ _ _ _ hP hD hG (by omega) hS (lv_sub hl [0, 1, 2, 3, 5, 6, 7] rfl)
      · skip
        replace h := (if_neg c_26).symm.trans h
        refine lv_aload_n hx hb dX4_group_35 rfl (lv_at hl 0 rfl) ?_
        refine lv_aload_n hx hb dX4_group_36 rfl (lv_at hl 1 rfl) ?_
        replace h := ob h; obtain ⟨v_31, hv_31, h⟩ := h
        refine fg_X4_153 hx hb hts hown hK hP hv_31 dX4_group_37 ?_
        refine lv_iload_n hx hb dX4_group_40 rfl (lv_at hl 2 rfl) ?_
        refine lv_iload hx hb dX4_group_41 (lv_at hl 8 rfl) ?_
        refine lv_iload hx hb dX4_group_43 (lv_at hl 4 rfl) ?_
        refine lv_imul hx hb dX4_group_45 ?_
        refine lv_iadd hx hb dX4_group_46 ?_
        refine lv_iload hx hb dX4_group_47 (lv_at hl 7 rfl) ?_
        refine lv_iload hx hb dX4_group_49 (lv_at hl 8 rfl) ?_
        refine lv_iload hx hb dX4_group_51 (lv_at hl 6 rfl) ?_
        refine lv_imul hx hb dX4_group_53 ?_
        refine lv_iadd hx hb dX4_group_54 ?_
        replace h := ob h; obtain ⟨i_32, hi_32, h⟩ := h
        subst hi_32
        replace h := ob h; obtain ⟨w_34, hw_34, h⟩ := h
        replace h := ob h; obtain ⟨cs_33, hv_33, h⟩ := h
        obtain ⟨qk_33, qm_33⟩ := mo_c_X4_computeAll F cs1 u0 i_32 (u2 + (u8 * u4)) (u7 + (u8 * u6)) cs_33 hv_33
        obtain ⟨k9_33, m9_33⟩ := mo_c_X4_group_b58 F (c_X4_group_L29 F lf_29) (mo_c_X4_group_L29 F lf_29) cs_33 u0 u1 u2 u3 u4 u5 u6 u7 u8 cs9 r9 h
        refine cavV (As := [.ref (b + i_32), .int (u2 + (u8 * u4)), .int (u7 + (u8 * u6))]) hx hb hml hts hown hK hP hD hS hG hA (by omega) (by omega) hZ (X := 5) (by decide) rfl (ckE_some hw_34) (sa_X4_computeAll l dC dI cB cI cJ cZ cS cO b K V fz F cs1 u0 i_32 (u2 + (u8 * u4)) (u7 + (u8 * u6)) cs_33 hv_33) (cw_X4_X4_computeAll hts (fr := 5) (Nat.le_of_ble_eq_true rfl) (Nat.le_of_ble_eq_true rfl)) rfl hl.1 (Nat.le_of_ble_eq_true rfl) ⟨by show kK cs1 - kK cs + (kK cs_33 - kK cs1) ≤ kK cs9 - kK cs; omega, by show kM cs1 - kM cs + (kM cs_33 - kM cs1) ≤ kM cs9 - kM cs; omega⟩ dX4_group_55 (fun H locs hP hD hG hgz hS => ?_)
        refine W_cnt (c2 := kK cs_33 - kK cs) (n2 := kM cs_33 - kM cs) (by omega) (by omega) ?_
        exact B_58 cs_33 u0 u1 u2 u3 u4 u5 u6 u7 u8 h (by omega) (by omega) _ _ _ _ hP hD hG (by omega) hS (lv_sub hl [0, 1, 2, 3, 4, 5, 6, 7, 8] rfl)
  have h := hf
  unfold c_X4_group at h
  refine W_cnt (c2 := kK cs - kK cs) (n2 := kM cs - kM cs) (by omega) (by omega) ?_
  refine lv_aload_n hx hb dX4_group_0 rfl (lv_at hl 1 rfl) ?_
  replace h := ob h; obtain ⟨v_35, hv_35, h⟩ := h
  refine fg_X4_153 hx hb hts hown hK hP hv_35 dX4_group_1 ?_
  replace h := ob h; obtain ⟨i_36, hi_36, h⟩ := h
  subst hi_36
  replace h := ob h; obtain ⟨v_37, hv_37, h⟩ := h
  refine fg_X4_29 hx hb hts hown hK hP hv_37 dX4_group_4 ?_
  refine lv_istore (lv' := [(5, .int v_37), (0, .ref (b + x0)), (1, .ref (b + x1)), (2, .int x2), (3, .int x3), (4, .int x4)]) hx hb dX4_group_7 hl (by decide) rfl (fun ls hl => ?_)
  refine lv_iload hx hb dX4_group_9 (lv_at hl 0 rfl) ?_
  refine lv_aload_n hx hb dX4_group_11 rfl (lv_at hl 2 rfl) ?_
  replace h := ob h; obtain ⟨v_38, hv_38, h⟩ := h
  refine fg_X4_156 hx hb hts hown hK hP hv_38 dX4_group_12 ?_
  refine lv_iadd hx hb dX4_group_15 ?_
  refine lv_istore (lv' := [(6, .int (v_37 + v_38)), (5, .int v_37), (0, .ref (b + x0)), (1, .ref (b + x1)), (2, .int x2), (3, .int x3), (4, .int x4)]) hx hb dX4_group_16 hl (by decide) rfl (fun ls hl => ?_)
  refine lv_iload_n hx hb dX4_group_18 rfl (lv_at hl 4 rfl) ?_
  refine lv_iload_n hx hb dX4_group_19 rfl (lv_at hl 5 rfl) ?_
  refine lv_iload hx hb dX4_group_20 (lv_at hl 6 rfl) ?_
  refine lv_imul hx hb dX4_group_22 ?_
  refine lv_iadd hx hb dX4_group_23 ?_
  refine lv_istore (lv' := [(7, .int (x2 + (x3 * x4))), (6, .int (v_37 + v_38)), (5, .int v_37), (0, .ref (b + x0)), (1, .ref (b + x1)), (2, .int x2), (3, .int x3), (4, .int x4)]) hx hb dX4_group_24 hl (by decide) rfl (fun ls hl => ?_)
  refine lv_iconst (v := 0) hx hb dX4_group_26 (by decide) ?_
  refine lv_istore (lv' := [(8, .int 0), (7, .int (x2 + (x3 * x4))), (6, .int (v_37 + v_38)), (5, .int v_37), (0, .ref (b + x0)), (1, .ref (b + x1)), (2, .int x2), (3, .int x3), (4, .int x4)]) hx hb dX4_group_27 hl (by decide) rfl (fun ls hl => ?_)
  refine W_cnt (c2 := kK cs - kK cs) (n2 := kM cs - kM cs) (by omega) (by omega) ?_
  exact L_29 F cs x0 x1 x2 x3 x4 v_37 (v_37 + v_38) (x2 + (x3 * x4)) 0 h (by omega) (by omega) _ _ _ _ hP hD hG (by omega) hS (lv_sub hl [4, 5, 6, 7, 8, 3, 2, 1, 0] rfl)
theorem dX4_order_0 : decode cX4_order 0 = .ok (.aload_n 1, 1) := by decide +kernel
theorem dX4_order_1 : decode cX4_order 1 = .ok (.getfield 29, 3) := by decide +kernel
theorem dX4_order_4 : decode cX4_order 4 = .ok (.iload 5, 2) := by decide +kernel
theorem dX4_order_6 : decode cX4_order 6 = .ok (.iadd, 1) := by decide +kernel
theorem dX4_order_7 : decode cX4_order 7 = .ok (.istore 6, 2) := by decide +kernel
theorem dX4_order_9 : decode cX4_order 9 = .ok (.iload_n 3, 1) := by decide +kernel
theorem dX4_order_10 : decode cX4_order 10 = .ok (.iload 4, 2) := by decide +kernel
theorem dX4_order_12 : decode cX4_order 12 = .ok (.iload 5, 2) := by decide +kernel
theorem dX4_order_14 : decode cX4_order 14 = .ok (.imul, 1) := by decide +kernel
theorem dX4_order_15 : decode cX4_order 15 = .ok (.iadd, 1) := by decide +kernel
theorem dX4_order_16 : decode cX4_order 16 = .ok (.istore 7, 2) := by decide +kernel
theorem dX4_order_18 : decode cX4_order 18 = .ok (.iconst 0, 1) := by decide +kernel
theorem dX4_order_19 : decode cX4_order 19 = .ok (.istore 8, 2) := by decide +kernel
theorem dX4_order_21 : decode cX4_order 21 = .ok (.iload 8, 2) := by decide +kernel
theorem dX4_order_23 : decode cX4_order 23 = .ok (.iload 4, 2) := by decide +kernel
theorem dX4_order_25 : decode cX4_order 25 = .ok (.if_icmp .ge 56, 3) := by decide +kernel
theorem dX4_order_28 : decode cX4_order 28 = .ok (.iload 7, 2) := by decide +kernel
theorem dX4_order_30 : decode cX4_order 30 = .ok (.iload 8, 2) := by decide +kernel
theorem dX4_order_32 : decode cX4_order 32 = .ok (.iload 6, 2) := by decide +kernel
theorem dX4_order_34 : decode cX4_order 34 = .ok (.imul, 1) := by decide +kernel
theorem dX4_order_35 : decode cX4_order 35 = .ok (.iadd, 1) := by decide +kernel
theorem dX4_order_36 : decode cX4_order 36 = .ok (.istore 9, 2) := by decide +kernel
theorem dX4_order_38 : decode cX4_order 38 = .ok (.aload_n 0, 1) := by decide +kernel
theorem dX4_order_39 : decode cX4_order 39 = .ok (.aload_n 1, 1) := by decide +kernel
theorem dX4_order_40 : decode cX4_order 40 = .ok (.iload_n 3, 1) := by decide +kernel
theorem dX4_order_41 : decode cX4_order 41 = .ok (.iload 8, 2) := by decide +kernel
theorem dX4_order_43 : decode cX4_order 43 = .ok (.iload 5, 2) := by decide +kernel
theorem dX4_order_45 : decode cX4_order 45 = .ok (.imul, 1) := by decide +kernel
theorem dX4_order_46 : decode cX4_order 46 = .ok (.iadd, 1) := by decide +kernel
theorem dX4_order_47 : decode cX4_order 47 = .ok (.iload 9, 2) := by decide +kernel
theorem dX4_order_49 : decode cX4_order 49 = .ok (.invokevirtual 93, 3) := by decide +kernel
theorem dX4_order_52 : decode cX4_order 52 = .ok (.aload_n 0, 1) := by decide +kernel
theorem dX4_order_53 : decode cX4_order 53 = .ok (.getfield 19, 3) := by decide +kernel
theorem dX4_order_56 : decode cX4_order 56 = .ok (.iload_n 3, 1) := by decide +kernel
theorem dX4_order_57 : decode cX4_order 57 = .ok (.iload 8, 2) := by decide +kernel
theorem dX4_order_59 : decode cX4_order 59 = .ok (.iload 5, 2) := by decide +kernel
theorem dX4_order_61 : decode cX4_order 61 = .ok (.imul, 1) := by decide +kernel
theorem dX4_order_62 : decode cX4_order 62 = .ok (.iadd, 1) := by decide +kernel
theorem dX4_order_63 : decode cX4_order 63 = .ok (.iload 9, 2) := by decide +kernel
theorem dX4_order_65 : decode cX4_order 65 = .ok (.aload_n 1, 1) := by decide +kernel
theorem dX4_order_66 : decode cX4_order 66 = .ok (.getfield 29, 3) := by decide +kernel
theorem dX4_order_69 : decode cX4_order 69 = .ok (.iadd, 1) := by decide +kernel
theorem dX4_order_70 : decode cX4_order 70 = .ok (.iload 5, 2) := by decide +kernel
theorem dX4_order_72 : decode cX4_order 72 = .ok (.invokevirtual 89, 3) := by decide +kernel
theorem dX4_order_75 : decode cX4_order 75 = .ok (.iinc 8 1, 3) := by decide +kernel
theorem dX4_order_78 : decode cX4_order 78 = .ok (.goto (-57), 3) := by decide +kernel
theorem dX4_order_81 : decode cX4_order 81 = .ok (.aload_n 0, 1) := by decide +kernel
theorem dX4_order_82 : decode cX4_order 82 = .ok (.getfield 19, 3) := by decide +kernel
theorem dX4_order_85 : decode cX4_order 85 = .ok (.iload 7, 2) := by decide +kernel
theorem dX4_order_87 : decode cX4_order 87 = .ok (.iload 4, 2) := by decide +kernel
theorem dX4_order_89 : decode cX4_order 89 = .ok (.iload 6, 2) := by decide +kernel
theorem dX4_order_91 : decode cX4_order 91 = .ok (.aload_n 1, 1) := by decide +kernel
theorem dX4_order_92 : decode cX4_order 92 = .ok (.invokevirtual 97, 3) := by decide +kernel
theorem dX4_order_95 : decode cX4_order 95 = .ok (.invokevirtual 75, 3) := by decide +kernel
theorem dX4_order_98 : decode cX4_order 98 = .ok (.iload 4, 2) := by decide +kernel
theorem dX4_order_100 : decode cX4_order 100 = .ok (.iload_n 2, 1) := by decide +kernel
theorem dX4_order_101 : decode cX4_order 101 = .ok (.invokestatic 100, 3) := by decide +kernel
theorem dX4_order_104 : decode cX4_order 104 = .ok (.istore 8, 2) := by decide +kernel
theorem dX4_order_106 : decode cX4_order 106 = .ok (.iconst 0, 1) := by decide +kernel
theorem dX4_order_107 : decode cX4_order 107 = .ok (.istore 9, 2) := by decide +kernel
theorem dX4_order_109 : decode cX4_order 109 = .ok (.iload 9, 2) := by decide +kernel
theorem dX4_order_111 : decode cX4_order 111 = .ok (.iload 8, 2) := by decide +kernel
theorem dX4_order_113 : decode cX4_order 113 = .ok (.if_icmp .ge 38, 3) := by decide +kernel
theorem dX4_order_116 : decode cX4_order 116 = .ok (.aload_n 0, 1) := by decide +kernel
theorem dX4_order_117 : decode cX4_order 117 = .ok (.getfield 19, 3) := by decide +kernel
theorem dX4_order_120 : decode cX4_order 120 = .ok (.iload 7, 2) := by decide +kernel
theorem dX4_order_122 : decode cX4_order 122 = .ok (.iload 9, 2) := by decide +kernel
theorem dX4_order_124 : decode cX4_order 124 = .ok (.iload 6, 2) := by decide +kernel
theorem dX4_order_126 : decode cX4_order 126 = .ok (.imul, 1) := by decide +kernel
theorem dX4_order_127 : decode cX4_order 127 = .ok (.iadd, 1) := by decide +kernel
theorem dX4_order_128 : decode cX4_order 128 = .ok (.aload_n 1, 1) := by decide +kernel
theorem dX4_order_129 : decode cX4_order 129 = .ok (.getfield 29, 3) := by decide +kernel
theorem dX4_order_132 : decode cX4_order 132 = .ok (.iadd, 1) := by decide +kernel
theorem dX4_order_133 : decode cX4_order 133 = .ok (.iload_n 3, 1) := by decide +kernel
theorem dX4_order_134 : decode cX4_order 134 = .ok (.iload 9, 2) := by decide +kernel
theorem dX4_order_136 : decode cX4_order 136 = .ok (.iload 5, 2) := by decide +kernel
theorem dX4_order_138 : decode cX4_order 138 = .ok (.imul, 1) := by decide +kernel
theorem dX4_order_139 : decode cX4_order 139 = .ok (.iadd, 1) := by decide +kernel
theorem dX4_order_140 : decode cX4_order 140 = .ok (.iload 5, 2) := by decide +kernel
theorem dX4_order_142 : decode cX4_order 142 = .ok (.invokevirtual 89, 3) := by decide +kernel
theorem dX4_order_145 : decode cX4_order 145 = .ok (.iinc 9 1, 3) := by decide +kernel
theorem dX4_order_148 : decode cX4_order 148 = .ok (.goto (-39), 3) := by decide +kernel
theorem dX4_order_151 : decode cX4_order 151 = .ok (.iload 8, 2) := by decide +kernel
theorem dX4_order_153 : decode cX4_order 153 = .ok (.ireturn, 1) := by decide +kernel
def c_X4_order_b145 (F : Nat) (rc109 : CS → Nat → Nat → Int32 → Int32 → Int32 → Int32 → Int32 → Int32 → Option (CS × Int32)) (cs1 : CS) (u0 : Nat) (u1 : Nat) (u3 : Int32) (u5 : Int32) (u6 : Int32) (u7 : Int32) (u8 : Int32) (u9 : Int32) : Option (CS × Int32) := rc109 cs1 u0 u1 u3 u5 u6 u7 u8 (u9 + 1)
def c_X4_order_L109 (F : Nat) : Nat → CS → Nat → Nat → Int32 → Int32 → Int32 → Int32 → Int32 → Int32 → Option (CS × Int32)
  | 0, _, _, _, _, _, _, _, _, _ => none
  | lf_109 + 1, cs1, u0, u1, u3, u5, u6, u7, u8, u9 => if u8 ≤ u9 then (some (cs1, u8)) else (Option.bind (gR cs1 5 162 u0) fun v_2 => Option.bind (gI cs1 3 96 u1) fun v_3 => Option.bind (v_2) fun i_5 => Option.bind (ckE cs1 9 i_5) fun _ => Option.bind (c_X8_copy F cs1 i_5 ((u7 + (u9 * u6)) + v_3) (u3 + (u9 * u5)) u5) fun cs_4 => c_X4_order_b145 F (c_X4_order_L109 F lf_109) cs_4 u0 u1 u3 u5 u6 u7 u8 u9)
def c_X4_order_b98 (F : Nat) (cs1 : CS) (u0 : Nat) (u1 : Nat) (u2 : Int32) (u3 : Int32) (u4 : Int32) (u5 : Int32) (u6 : Int32) (u7 : Int32) : Option (CS × Int32) := c_X4_order_L109 F F cs1 u0 u1 u3 u5 u6 u7 (if u2 < u4 then u2 else u4) 0
def c_X4_order_b75 (F : Nat) (rc21 : CS → Nat → Nat → Int32 → Int32 → Int32 → Int32 → Int32 → Int32 → Int32 → Option (CS × Int32)) (cs1 : CS) (u0 : Nat) (u1 : Nat) (u2 : Int32) (u3 : Int32) (u4 : Int32) (u5 : Int32) (u6 : Int32) (u7 : Int32) (u8 : Int32) : Option (CS × Int32) := rc21 cs1 u0 u1 u2 u3 u4 u5 u6 u7 (u8 + 1)
def c_X4_order_b52 (F : Nat) (rc21 : CS → Nat → Nat → Int32 → Int32 → Int32 → Int32 → Int32 → Int32 → Int32 → Option (CS × Int32)) (cs1 : CS) (u0 : Nat) (u1 : Nat) (u2 : Int32) (u3 : Int32) (u4 : Int32) (u5 : Int32) (u6 : Int32) (u7 : Int32) (u8 : Int32) (u9 : Int32) : Option (CS × Int32) := Option.bind (gR cs1 5 162 u0) fun v_7 => Option.bind (gI cs1 3 96 u1) fun v_8 => Option.bind (v_7) fun i_10 => Option.bind (ckE cs1 9 i_10) fun _ => Option.bind (c_X8_copy F cs1 i_10 (u3 + (u8 * u5)) (u9 + v_8) u5) fun cs_9 => c_X4_order_b75 F rc21 cs_9 u0 u1 u2 u3 u4 u5 u6 u7 u8
def c_X4_order_L21 (F : Nat) : Nat → CS → Nat → Nat → Int32 → Int32 → Int32 → Int32 → Int32 → Int32 → Int32 → Option (CS × Int32)
  | 0, _, _, _, _, _, _, _, _, _, _ => none
  | lf_21 + 1, cs1, u0, u1, u2, u3, u4, u5, u6, u7, u8 => if u4 ≤ u8 then (Option.bind (gR cs1 5 162 u0) fun v_13 => Option.bind (ckE cs1 3 u1) fun _ => Option.bind (c_X2_markBits F cs1 u1) fun v_14 => Option.bind (v_13) fun i_17 => Option.bind (ckE cs1 9 i_17) fun _ => Option.bind (c_X8_sort F cs1 i_17 u7 u4 u6 v_14) fun cs_16 => c_X4_order_b98 F cs_16 u0 u1 u2 u3 u4 u5 u6 u7) else (Option.bind (ckE cs1 5 u0) fun _ => Option.bind (c_X4_computeAll F cs1 u0 u1 (u3 + (u8 * u5)) (u7 + (u8 * u6))) fun cs_19 => c_X4_order_b52 F (c_X4_order_L21 F lf_21) cs_19 u0 u1 u2 u3 u4 u5 u6 u7 u8 (u7 + (u8 * u6)))
def c_X4_order (F : Nat) (cs : CS) (x0 : Nat) (x1 : Nat) (x2 : Int32) (x3 : Int32) (x4 : Int32) (x5 : Int32) : Option (CS × Int32) := Option.bind (gI cs 3 96 x1) fun v_21 => c_X4_order_L21 F F cs x0 x1 x2 x3 x4 x5 (v_21 + x5) (x3 + (x4 * x5)) 0
theorem cw_X4_X4_order {R : Room} {s : State} {args : Array Value} {y0 : MethodName} {c0 : ByteArray} {n0 : Nat} {r0 : Option FieldType} (hts : ∀ w ∈ wsOf y0 c0 n0 r0, w.before args s = true) {fr mc ms : Nat} (h1 : fr + 1 ≤ R.frames) (h2 : 8 + (10 + 11) + 60 * fr ≤ R.locals) : CallW R s args RX4 RX4 67 yX4_order cX4_order 10 (some .int) (wsOf yX4_order cX4_order 10 (some .int)) ({ frames := fr, cells := mc, slots := ms, locals := 60 * fr } : Room) mc ms 5 := cwV 5 hts (gd_all (in_V kw_1541 kw_1543 kw_89 kw_206 kc_X4_order)) rfl rfl rfl (by decide +kernel) ⟨h1, h2⟩
theorem mo_c_X4_order_b145 (F : Nat) (rc109 : CS → Nat → Nat → Int32 → Int32 → Int32 → Int32 → Int32 → Int32 → Option (CS × Int32)) (hrc109 : ∀ (cs1 : CS) (u0 : Nat) (u1 : Nat) (u3 : Int32) (u5 : Int32) (u6 : Int32) (u7 : Int32) (u8 : Int32) (u9 : Int32) (cs9 : CS) (r9 : Int32), rc109 cs1 u0 u1 u3 u5 u6 u7 u8 u9 = some (cs9, r9) → kK cs1 ≤ kK cs9 ∧ kM cs1 ≤ kM cs9) (cs1 : CS) (u0 : Nat) (u1 : Nat) (u3 : Int32) (u5 : Int32) (u6 : Int32) (u7 : Int32) (u8 : Int32) (u9 : Int32) (cs9 : CS) (r9 : Int32) (h : c_X4_order_b145 F rc109 cs1 u0 u1 u3 u5 u6 u7 u8 u9 = some (cs9, r9)) : kK cs1 ≤ kK cs9 ∧ kM cs1 ≤ kM cs9 := by
  unfold c_X4_order_b145 at h
  obtain ⟨k9, m9⟩ := hrc109 cs1 u0 u1 u3 u5 u6 u7 u8 (u9 + 1) cs9 r9 h
  exact ⟨by omega, by omega⟩
theorem mo_c_X4_order_L109 (F : Nat) : ∀ (lf_109 : Nat) (cs1 : CS) (u0 : Nat) (u1 : Nat) (u3 : Int32) (u5 : Int32) (u6 : Int32) (u7 : Int32) (u8 : Int32) (u9 : Int32) (cs9 : CS) (r9 : Int32), c_X4_order_L109 F lf_109 cs1 u0 u1 u3 u5 u6 u7 u8 u9 = some (cs9, r9) → kK cs1 ≤ kK cs9 ∧ kM cs1 ≤ kM cs9 := by
  intro lf_109
  induction lf_109 with
  | zero => intro cs1 u0 u1 u3 u5 u6 u7 u8 u9 cs9 r9 h; cases (show (none : Option (CS × Int32)) = _ from h)
  | succ lf_109 ih_109 =>
    intro cs1 u0 u1 u3 u5 u6 u7 u8 u9 cs9 r9 h
    rw [c_X4_order_L109] at h
    by_cases c_21 : u8 ≤ u9
    · skip
      replace h := (if_pos c_21).symm.trans h
      have h9 := (Prod.mk.inj (Option.some.inj h)).1
      have k9 := congrArg kK h9; have m9 := congrArg kM h9; exact ⟨by omega, by omega⟩
    · skip
      replace h := (if_neg c_21).symm.trans h
      replace h := ob h; obtain ⟨v_22, hv_22, h⟩ := h
      replace h := ob h; obtain ⟨v_23, hv_23, h⟩ := h
      replace h := ob h; obtain ⟨i_25, hi_25, h⟩ := h
      subst hi_25
      replace h := ob h; obtain ⟨w_26, hw_26, h⟩ := h
      replace h := ob h; obtain ⟨cs_24, hv_24, h⟩ := h
      obtain ⟨qk_24, qm_24⟩ := mo_c_X8_copy F cs1 i_25 ((u7 + (u9 * u6)) + v_23) (u3 + (u9 * u5)) u5 cs_24 hv_24
      obtain ⟨k9, m9⟩ := mo_c_X4_order_b145 F (c_X4_order_L109 F lf_109) ih_109 cs_24 u0 u1 u3 u5 u6 u7 u8 u9 cs9 r9 h
      exact ⟨by omega, by omega⟩
theorem mo_c_X4_order_b98 (F : Nat) (cs1 : CS) (u0 : Nat) (u1 : Nat) (u2 : Int32) (u3 : Int32) (u4 : Int32) (u5 : Int32) (u6 : Int32) (u7 : Int32) (cs9 : CS) (r9 : Int32) (h : c_X4_order_b98 F cs1 u0 u1 u2 u3 u4 u5 u6 u7 = some (cs9, r9)) : kK cs1 ≤ kK cs9 ∧ kM cs1 ≤ kM cs9 := by
  unfold c_X4_order_b98 at h
  obtain ⟨k9, m9⟩ := mo_c_X4_order_L109 F F cs1 u0 u1 u3 u5 u6 u7 (if u2 < u4 then u2 else u4) 0 cs9 r9 h
  exact ⟨by omega, by omega⟩
theorem mo_c_X4_order_b75 (F : Nat) (rc21 : CS → Nat → Nat → Int32 → Int32 → Int32 → Int32 → Int32 → Int32 → Int32 → Option (CS × Int32)) (hrc21 : ∀ (cs1 : CS) (u0 : Nat) (u1 : Nat) (u2 : Int32) (u3 : Int32) (u4 : Int32) (u5 : Int32) (u6 : Int32) (u7 : Int32) (u8 : Int32) (cs9 : CS) (r9 : Int32), rc21 cs1 u0 u1 u2 u3 u4 u5 u6 u7 u8 = some (cs9, r9) → kK cs1 ≤ kK cs9 ∧ kM cs1 ≤ kM cs9) (cs1 : CS) (u0 : Nat) (u1 : Nat) (u2 : Int32) (u3 : Int32) (u4 : Int32) (u5 : Int32) (u6 : Int32) (u7 : Int32) (u8 : Int32) (cs9 : CS) (r9 : Int32) (h : c_X4_order_b75 F rc21 cs1 u0 u1 u2 u3 u4 u5 u6 u7 u8 = some (cs9, r9)) : kK cs1 ≤ kK cs9 ∧ kM cs1 ≤ kM cs9 := by
  unfold c_X4_order_b75 at h
  obtain ⟨k9, m9⟩ := hrc21 cs1 u0 u1 u2 u3 u4 u5 u6 u7 (u8 + 1) cs9 r9 h
  exact ⟨by omega, by omega⟩
theorem mo_c_X4_order_b52 (F : Nat) (rc21 : CS → Nat → Nat → Int32 → Int32 → Int32 → Int32 → Int32 → Int32 → Int32 → Option (CS × Int32)) (hrc21 : ∀ (cs1 : CS) (u0 : Nat) (u1 : Nat) (u2 : Int32) (u3 : Int32) (u4 : Int32) (u5 : Int32) (u6 : Int32) (u7 : Int32) (u8 : Int32) (cs9 : CS) (r9 : Int32), rc21 cs1 u0 u1 u2 u3 u4 u5 u6 u7 u8 = some (cs9, r9) → kK cs1 ≤ kK cs9 ∧ kM cs1 ≤ kM cs9) (cs1 : CS) (u0 : Nat) (u1 : Nat) (u2 : Int32) (u3 : Int32) (u4 : Int32) (u5 : Int32) (u6 : Int32) (u7 : Int32) (u8 : Int32) (u9 : Int32) (cs9 : CS) (r9 : Int32) (h : c_X4_order_b52 F rc21 cs1 u0 u1 u2 u3 u4 u5 u6 u7 u8 u9 = some (cs9, r9)) : kK cs1 ≤ kK cs9 ∧ kM cs1 ≤ kM cs9 := by
  unfold c_X4_order_b52 at h
  replace h := ob h; obtain ⟨v_21, hv_21, h⟩ := h
  replace h := ob h; obtain ⟨v_22, hv_22, h⟩ := h
  replace h := ob h; obtain ⟨i_24, hi_24, h⟩ := h
  subst hi_24
  replace h := ob h; obtain ⟨w_25, hw_25, h⟩ := h
  replace h := ob h; obtain ⟨cs_23, hv_23, h⟩ := h
  obtain ⟨qk_23, qm_23⟩ := mo_c_X8_copy F cs1 i_24 (u3 + (u8 * u5)) (u9 + v_22) u5 cs_23 hv_23
  obtain ⟨k9, m9⟩ := mo_c_X4_order_b75 F rc21 hrc21 cs_23 u0 u1 u2 u3 u4 u5 u6 u7 u8 cs9 r9 h
  exact ⟨by omega, by omega⟩
theorem mo_c_X4_order_L21 (F : Nat) : ∀ (lf_21 : Nat) (cs1 : CS) (u0 : Nat) (u1 : Nat) (u2 : Int32) (u3 : Int32) (u4 : Int32) (u5 : Int32) (u6 : Int32) (u7 : Int32) (u8 : Int32) (cs9 : CS) (r9 : Int32), c_X4_order_L21 F lf_21 cs1 u0 u1 u2 u3 u4 u5 u6 u7 u8 = some (cs9, r9) → kK cs1 ≤ kK cs9 ∧ kM cs1 ≤ kM cs9 := by
  intro lf_21
  induction lf_21 with
  | zero => intro cs1 u0 u1 u2 u3 u4 u5 u6 u7 u8 cs9 r9 h; cases (show (none : Option (CS × Int32)) = _ from h)
  | succ lf_21 ih_21 =>
    intro cs1 u0 u1 u2 u3 u4 u5 u6 u7 u8 cs9 r9 h
    rw [c_X4_order_L21] at h
    by_cases c_21 : u4 ≤ u8
    · skip
      replace h := (if_pos c_21).symm.trans h
      replace h := ob h; obtain ⟨v_22, hv_22, h⟩ := h
      replace h := ob h; obtain ⟨w_24, hw_24, h⟩ := h
      replace h := ob h; obtain ⟨v_23, hv_23, h⟩ := h
      replace h := ob h; obtain ⟨i_26, hi_26, h⟩ := h
      subst hi_26
      replace h := ob h; obtain ⟨w_27, hw_27, h⟩ := h
      replace h := ob h; obtain ⟨cs_25, hv_25, h⟩ := h
      obtain ⟨qk_25, qm_25⟩ := mo_c_X8_sort F cs1 i_26 u7 u4 u6 v_23 cs_25 hv_25
      obtain ⟨k9, m9⟩ := mo_c_X4_order_b98 F cs_25 u0 u1 u2 u3 u4 u5 u6 u7 cs9 r9 h
      exact ⟨by omega, by omega⟩
    · skip
      replace h := (if_neg c_21).symm.trans h
      replace h := ob h; obtain ⟨w_29, hw_29, h⟩ := h
      replace h := ob h; obtain ⟨cs_28, hv_28, h⟩ := h
      obtain ⟨qk_28, qm_28⟩ := mo_c_X4_computeAll F cs1 u0 u1 (u3 + (u8 * u5)) (u7 + (u8 * u6)) cs_28 hv_28
      obtain ⟨k9, m9⟩ := mo_c_X4_order_b52 F (c_X4_order_L21 F lf_21) ih_21 cs_28 u0 u1 u2 u3 u4 u5 u6 u7 u8 (u7 + (u8 * u6)) cs9 r9 h
      exact ⟨by omega, by omega⟩
theorem mo_c_X4_order (F : Nat) (cs : CS) (x0 : Nat) (x1 : Nat) (x2 : Int32) (x3 : Int32) (x4 : Int32) (x5 : Int32) (cs9 : CS) (r9 : Int32) (h : c_X4_order F cs x0 x1 x2 x3 x4 x5 = some (cs9, r9)) : kK cs ≤ kK cs9 ∧ kM cs ≤ kM cs9 := by
  unfold c_X4_order at h
  replace h := ob h; obtain ⟨v_21, hv_21, h⟩ := h
  obtain ⟨k9, m9⟩ := mo_c_X4_order_L21 F F cs x0 x1 x2 x3 x4 x5 (v_21 + x5) (x3 + (x4 * x5)) 0 cs9 r9 h
  exact ⟨by omega, by omega⟩
set_option maxHeartbeats 4000000 in
set_option maxRecDepth 100000 in
theorem sa_X4_order (l : Launch) (dC : Nat → ClassId) (dI : Nat → Nat → Nat) (cB cI cJ cZ cS cO : ClassId) (b : Nat) (K V : Nat → Nat) (fz : Value) (F : Nat) (cs : CS) (x0 : Nat) (x1 : Nat) (x2 : Int32) (x3 : Int32) (x4 : Int32) (x5 : Int32) (cs9 : CS) (r9 : Int32) (hf : c_X4_order F cs x0 x1 x2 x3 x4 x5 = some (cs9, r9)) : oaI l dC dI cB cI cJ cZ cS cO b K V fz yX4_order (wsOf yX4_order cX4_order 10 (some .int)) (6) [.ref (b + x0), .ref (b + x1), .int x2, .int x3, .int x4, .int x5] cs cs9 r9 := by
  obtain ⟨kb9, mb9⟩ := mo_c_X4_order F cs x0 x1 x2 x3 x4 x5 cs9 r9 hf
  refine ⟨⟨kb9, mb9⟩, ?_⟩
  refine Met.ofW (cc := cX4_order) (maxL := 10) (ret := (some .int)) (by decide) rfl ?_
  intro p e s m args below meth c s₁ B hml hv
  obtain ⟨rfl, hsz, hP, hK, hD0, hZ⟩ := hv
  have hx := B.exec
  have hb := B.bytes
  have hr := B.returns
  have hts := atoms_spec (ws := (wsOf yX4_order cX4_order 10 (some .int))) B.pre
  have hown : s.vm.findClass RX4 = some m.cls := findClass_of_methodNamed B.named
  have hlocks := B.notSynchronized
  have hD := hD0.self (sz := b + kK cs)
  generalize hAe : va_A (cW cB cI cJ cZ cS cO b cs) (b + kK cs) = A at hD hZ ⊢
  have hA : ∀ q : Nat, s.heap.size ≤ q → A q := fun q h => by rw [← hAe]; exact Or.inr (by omega)
  have hS : va_S A s.heap s.heap [] := va_S.rf
  have hG : va_S A s.heap s.heap [] := va_S.rf
  have hgz : s.heap.size = b + kK cs := hsz
  have hl := lv_entry ([.ref (b + x0), .ref (b + x1), .int x2, .int x3, .int x4, .int x5]) (n := 10) (Nat.le_of_ble_eq_true rfl)
  rw [lg_entry_eq]
  generalize (lg_sl ([.ref (b + x0), .ref (b + x1), .int x2, .int x3, .int x4, .int x5]) ++ List.replicate (10 - (lg_sl ([.ref (b + x0), .ref (b + x1), .int x2, .int x3, .int x4, .int x5])).length) Slot.unset).toArray = ls at hl ⊢
  have hl : lv_has ls 10 [(0, .ref (b + x0)), (1, .ref (b + x1)), (2, .int x2), (3, .int x3), (4, .int x4), (5, .int x5)] := hl
  have L_109 : ∀ (lf_109 : Nat), ∀ (cs1 : CS) (u0 : Nat) (u1 : Nat) (u3 : Int32) (u5 : Int32) (u6 : Int32) (u7 : Int32) (u8 : Int32) (u9 : Int32), c_X4_order_L109 F lf_109 cs1 u0 u1 u3 u5 u6 u7 u8 u9 = some (cs9, r9) → kK cs ≤ kK cs1 → kM cs ≤ kM cs1 → ∀ (Gh H : Heap) (locs : List Loc) (ls : Array Slot), va_P (dC, dI) vwCl (cW cB cI cJ cZ cS cO b cs1) H → va_D A (cW cB cI cJ cZ cS cO b cs1) → va_S A s.heap Gh [] → Gh.size = b + kK cs1 → va_S A Gh H locs → lv_has ls 10 [(0, .ref (b + u0)), (1, .ref (b + u1)), (3, .int u3), (5, .int u5), (6, .int u6), (7, .int u7), (8, .int u8), (9, .int u9)] → W p l e (headSpec (wsOf yX4_order cX4_order 10 (some .int)) ({ frames := 6, cells := kK cs9 - kK cs, slots := kM cs9 - kM cs, locals := 60 * (6) } : Room)).room s m ([.ref (b + x0), .ref (b + x1), .int x2, .int x3, .int x4, .int x5] : List Value).toArray below meth c H locs (kK cs1 - kK cs) (kM cs1 - kM cs) (MQ below (va_Qi (fun (x : Int32) (_ : Unit) => x = r9) (fun _ t_ => va_P (dC, dI) vwCl (cW cB cI cJ cZ cS cO b cs9) t_.heap ∧ va_D A (cW cB cI cJ cZ cS cO b cs9) ∧ b + kK cs9 ≤ t_.heap.size) A) ([.ref (b + x0), .ref (b + x1), .int x2, .int x3, .int x4, .int x5] : List Value).toArray s (kK cs9 - kK cs) (kM cs9 - kM cs) A) (F0 m 109 ls []) := by
    intro lf_109
    induction lf_109 with
    | zero => intro cs1 u0 u1 u3 u5 u6 u7 u8 u9 h; cases (show (none : Option (CS × Int32)) = _ from h)
    | succ lf_109 ih_109 =>
      have B_145 : ∀ (cs1 : CS) (u0 : Nat) (u1 : Nat) (u3 : Int32) (u5 : Int32) (u6 : Int32) (u7 : Int32) (u8 : Int32) (u9 : Int32), c_X4_order_b145 F (c_X4_order_L109 F lf_109) cs1 u0 u1 u3 u5 u6 u7 u8 u9 = some (cs9, r9) → kK cs ≤ kK cs1 → kM cs ≤ kM cs1 → ∀ (Gh H : Heap) (locs : List Loc) (ls : Array Slot), va_P (dC, dI) vwCl (cW cB cI cJ cZ cS cO b cs1) H → va_D A (cW cB cI cJ cZ cS cO b cs1) → va_S A s.heap Gh [] → Gh.size = b + kK cs1 → va_S A Gh H locs → lv_has ls 10 [(0, .ref (b + u0)), (1, .ref (b + u1)), (3, .int u3), (5, .int u5), (6, .int u6), (7, .int u7), (8, .int u8), (9, .int u9)] → W p l e (headSpec (wsOf yX4_order cX4_order 10 (some .int)) ({ frames := 6, cells := kK cs9 - kK cs, slots := kM cs9 - kM cs, locals := 60 * (6) } : Room)).room s m ([.ref (b + x0), .ref (b + x1), .int x2, .int x3, .int x4, .int x5] : List Value).toArray below meth c H locs (kK cs1 - kK cs) (kM cs1 - kM cs) (MQ below (va_Qi (fun (x : Int32) (_ : Unit) => x = r9) (fun _ t_ => va_P (dC, dI) vwCl (cW cB cI cJ cZ cS cO b cs9) t_.heap ∧ va_D A (cW cB cI cJ cZ cS cO b cs9) ∧ b + kK cs9 ≤ t_.heap.size) A) ([.ref (b + x0), .ref (b + x1), .int x2, .int x3, .int x4, .int x5] : List Value).toArray s (kK cs9 - kK cs) (kM cs9 - kM cs) A) (F0 m 145 ls []) := by
        intro cs1 u0 u1 u3 u5 u6 u7 u8 u9 h hmk hmm Gh H locs ls hP hD hG hgz hS hl
        obtain ⟨kb9, mb9⟩ := mo_c_X4_order_b145 F (c_X4_order_L109 F lf_109) (mo_c_X4_order_L109 F lf_109) cs1 u0 u1 u3 u5 u6 u7 u8 u9 cs9 r9 h
        unfold c_X4_order_b145 at h
        refine lv_iinc (v := u9 + 1) (lv' := [(9, .int (u9 + 1)), (0, .ref (b + u0)), (1, .ref (b + u1)), (3, .int u3), (5, .int u5), (6, .int u6), (7, .int u7), (8, .int u8)]) hx hb dX4_order_145 hl (k := 7) rfl rfl (by decide) rfl (fun ls hl => ?_)
        refine lv_goto (tgt := 109) hx hb dX4_order_148 (by decide) ?_
        refine W_cnt (c2 := kK cs1 - kK cs) (n2 := kM cs1 - kM cs) (by omega) (by omega) ?_
        exact ih_109 cs1 u0 u1 u3 u5 u6 u7 u8 (u9 + 1) h (by omega) (by omega) _ _ _ _ hP hD hG (by omega) hS (lv_sub hl [1, 2, 3, 4, 5, 6, 7, 0] rfl)
      intro cs1 u0 u1 u3 u5 u6 u7 u8 u9 h hmk hmm Gh H locs ls hP hD hG hgz hS hl
      obtain ⟨kb9, mb9⟩ := mo_c_X4_order_L109 F (lf_109 + 1) cs1 u0 u1 u3 u5 u6 u7 u8 u9 cs9 r9 h
      rw [c_X4_order_L109] at h
      refine lv_iload hx hb dX4_order_109 (lv_at hl 7 rfl) ?_
      refine lv_iload hx hb dX4_order_111 (lv_at hl 6 rfl) ?_
      refine lv_icmp_ge (tgt := 151) hx hb dX4_order_113 (by decide) (fun c_1 => ?_) (fun c_1 => ?_)
      · skip
        replace h := (if_pos c_1).symm.trans h
        refine lv_iload hx hb dX4_order_151 (lv_at hl 6 rfl) ?_
        obtain ⟨e1, e2⟩ := Prod.mk.inj (Option.some.inj h)
        rw [e1] at hP hD
        have e3 := congrArg kK e1
        have e4 := congrArg kM e1
        refine W_cnt (c2 := kK cs9 - kK cs) (n2 := kM cs9 - kM cs) (by omega) (by omega) ?_
        exact W.iret (v := u8) hx hb hr (fun t_ ht hW => ⟨⟨u8, (), rfl, e2, by rw [ht]; exact hP, hD, by rw [ht]; have := hS.1; omega⟩, (hG.comp hS).F ht⟩) (hG.comp hS).2.2 dX4_order_153
      · skip
        replace h := (if_neg c_1).symm.trans h
        refine lv_aload_n hx hb dX4_order_116 rfl (lv_at hl 0 rfl) ?_
        replace h := ob h; obtain ⟨v_2, hv_2, h⟩ := h
        refine fg_X4_19 hx hb hts hown hK hP hv_2 dX4_order_117 ?_
        refine lv_iload hx hb dX4_order_120 (lv_at hl 5 rfl) ?_
        refine lv_iload hx hb dX4_order_122 (lv_at hl 7 rfl) ?_
        refine lv_iload hx hb dX4_order_124 (lv_at hl 4 rfl) ?_
        refine lv_imul hx hb dX4_order_126 ?_
        refine lv_iadd hx hb dX4_order_127 ?_
        refine lv_aload_n hx hb dX4_order_128 rfl (lv_at hl 1 rfl) ?_
        replace h := ob h; obtain ⟨v_3, hv_3, h⟩ := h
        refine fg_X4_29 hx hb hts hown hK hP hv_3 dX4_order_129 ?_
        refine lv_iadd hx hb dX4_order_132 ?_
        refine lv_iload_n hx hb dX4_order_133 rfl (lv_at hl 2 rfl) ?_
        refine lv_iload hx hb dX4_order_134 (lv_at hl 7 rfl) ?_
        refine lv_iload hx hb dX4_order_136 (lv_at hl 3 rfl) ?_
        refine lv_imul hx hb dX4_order_138 ?_
        refine lv_iadd hx hb dX4_order_139 ?_
        refine lv_iload hx hb dX4_order_140 (lv_at hl 3 rfl) ?_
        replace h := ob h; obtain ⟨i_5, hi_5, h⟩ := h
        subst hi_5
        replace h := ob h; obtain ⟨w_6, hw_6, h⟩ := h
        replace h := ob h; obtain ⟨cs_4, hv_4, h⟩ := h
        obtain ⟨qk_4, qm_4⟩ := mo_c_X8_copy F cs1 i_5 ((u7 + (u9 * u6)) + v_3) (u3 + (u9 * u5)) u5 cs_4 hv_4
        obtain ⟨k9_4, m9_4⟩ := mo_c_X4_order_b145 F (c_X4_order_L109 F lf_109) (mo_c_X4_order_L109 F lf_109) cs_4 u0 u1 u3 u5 u6 u7 u8 u9 cs9 r9 h
        refine cavV (As := [.int ((u7 + (u9 * u6)) + v_3), .int (u3 + (u9 * u5)), .int u5]) hx hb hml hts hown hK hP hD hS hG hA (by omega) (by omega) hZ (X := 9) (by decide) rfl (ckE_some hw_6) (sa_X8_copy l dC dI cB cI cJ cZ cS cO b K V fz F cs1 i_5 ((u7 + (u9 * u6)) + v_3) (u3 + (u9 * u5)) u5 cs_4 hv_4) (cw_X4_X8_copy hts (fr := 4) (Nat.le_of_ble_eq_true rfl) (Nat.le_of_ble_eq_true rfl)) rfl hl.1 (Nat.le_of_ble_eq_true rfl) ⟨by show kK cs1 - kK cs + (kK cs_4 - kK cs1) ≤ kK cs9 - kK cs; omega, by show kM cs1 - kM cs + (kM cs_4 - kM cs1) ≤ kM cs9 - kM cs; omega⟩ dX4_order_142 (fun H locs hP hD hG hgz hS => ?_)
        refine W_cnt (c2 := kK cs_4 - kK cs) (n2 := kM cs_4 - kM cs) (by omega) (by omega) ?_
        exact B_145 cs_4 u0 u1 u3 u5 u6 u7 u8 u9 h (by omega) (by omega) _ _ _ _ hP hD hG (by omega) hS (lv_sub hl [0, 1, 2, 3, 4, 5, 6, 7] rfl)
  have B_98 : ∀ (cs1 : CS) (u0 : Nat) (u1 : Nat) (u2 : Int32) (u3 : Int32) (u4 : Int32) (u5 : Int32) (u6 : Int32) (u7 : Int32), c_X4_order_b98 F cs1 u0 u1 u2 u3 u4 u5 u6 u7 = some (cs9, r9) → kK cs ≤ kK cs1 → kM cs ≤ kM cs1 → ∀ (Gh H : Heap) (locs : List Loc) (ls : Array Slot), va_P (dC, dI) vwCl (cW cB cI cJ cZ cS cO b cs1) H → va_D A (cW cB cI cJ cZ cS cO b cs1) → va_S A s.heap Gh [] → Gh.size = b + kK cs1 → va_S A Gh H locs → lv_has ls 10 [(0, .ref (b + u0)), (1, .ref (b + u1)), (2, .int u2), (3, .int u3), (4, .int u4), (5, .int u5), (6, .int u6), (7, .int u7)] → W p l e (headSpec (wsOf yX4_order cX4_order 10 (some .int)) ({ frames := 6, cells := kK cs9 - kK cs, slots := kM cs9 - kM cs, locals := 60 * (6) } : Room)).room s m ([.ref (b + x0), .ref (b + x1), .int x2, .int x3, .int x4, .int x5] : List Value).toArray below meth c H locs (kK cs1 - kK cs) (kM cs1 - kM cs) (MQ below (va_Qi (fun (x : Int32) (_ : Unit) => x = r9) (fun _ t_ => va_P (dC, dI) vwCl (cW cB cI cJ cZ cS cO b cs9) t_.heap ∧ va_D A (cW cB cI cJ cZ cS cO b cs9) ∧ b + kK cs9 ≤ t_.heap.size) A) ([.ref (b + x0), .ref (b + x1), .int x2, .int x3, .int x4, .int x5] : List Value).toArray s (kK cs9 - kK cs) (kM cs9 - kM cs) A) (F0 m 98 ls []) := by
    intro cs1 u0 u1 u2 u3 u4 u5 u6 u7 h hmk hmm Gh H locs ls hP hD hG hgz hS hl
    obtain ⟨kb9, mb9⟩ := mo_c_X4_order_b98 F cs1 u0 u1 u2 u3 u4 u5 u6 u7 cs9 r9 h
    unfold c_X4_order_b98 at h
    refine lv_iload hx hb dX4_order_98 (lv_at hl 4 rfl) ?_
    refine lv_iload_n hx hb dX4_order_100 rfl (lv_at hl 2 rfl) ?_
    refine va_mmin (x := u4) (y := u2) hx hb (hml.trans hl.1.symm) hown (hts _ (List.mem_cons_of_mem _ kw_1549)) (hts _ (List.mem_cons_of_mem _ kw_506)) (hts _ (List.mem_cons_of_mem _ kw_190)) (hts _ (List.mem_cons_of_mem _ kc_min)) (Nat.le_of_ble_eq_true rfl) (Nat.le_of_ble_eq_true rfl) (by show kK cs1 - kK cs ≤ kK cs9 - kK cs; omega) (by show kM cs1 - kM cs ≤ kM cs9 - kM cs; omega) dX4_order_101 ?_
    refine lv_istore (lv' := [(8, .int (if u2 < u4 then u2 else u4)), (0, .ref (b + u0)), (1, .ref (b + u1)), (2, .int u2), (3, .int u3), (4, .int u4), (5, .int u5), (6, .int u6), (7, .int u7)]) hx hb dX4_order_104 hl (by decide) rfl (fun ls hl => ?_)
    refine lv_iconst (v := 0) hx hb dX4_order_106 (by decide) ?_
    refine lv_istore (lv' := [(9, .int 0), (8, .int (if u2 < u4 then u2 else u4)), (0, .ref (b + u0)), (1, .ref (b + u1)), (2, .int u2), (3, .int u3), (4, .int u4), (5, .int u5), (6, .int u6), (7, .int u7)]) hx hb dX4_order_107 hl (by decide) rfl (fun ls hl => ?_)
    refine W_cnt (c2 := kK cs1 - kK cs) (n2 := kM cs1 - kM cs) (by omega) (by omega) ?_
    exact L_109 F cs1 u0 u1 u3 u5 u6 u7 (if u2 < u4 then u2 else u4) 0 h (by omega) (by omega) _ _ _ _ hP hD hG (by omega) hS (lv_sub hl [2, 3, 5, 7, 8, 9, 1, 0] rfl)
  have L_21 : ∀ (lf_21 : Nat), ∀ (cs1 : CS) (u0 : Nat) (u1 : Nat) (u2 : Int32) (u3 : Int32) (u4 : Int32) (u5 : Int32) (u6 : Int32) (u7 : Int32) (u8 : Int32), c_X4_order_L21 F lf_21 cs1 u0 u1 u2 u3 u4 u5 u6 u7 u8 = some (cs9, r9) → kK cs ≤ kK cs1 → kM cs ≤ kM cs1 → ∀ (Gh H : Heap) (locs : List Loc) (ls : Array Slot), va_P (dC, dI) vwCl (cW cB cI cJ cZ cS cO b cs1) H → va_D A (cW cB cI cJ cZ cS cO b cs1) → va_S A s.heap Gh [] → Gh.size = b + kK cs1 → va_S A Gh H locs → lv_has ls 10 [(0, .ref (b + u0)), (1, .ref (b + u1)), (2, .int u2), (3, .int u3), (4, .int u4), (5, .int u5), (6, .int u6), (7, .int u7), (8, .int u8)] → W p l e (headSpec (wsOf yX4_order cX4_order 10 (some .int)) ({ frames := 6, cells := kK cs9 - kK cs, slots := kM cs9 - kM cs, locals := 60 * (6) } : Room)).room s m ([.ref (b + x0), .ref (b + x1), .int x2, .int x3, .int x4, .int x5] : List Value).toArray below meth c H locs (kK cs1 - kK cs) (kM cs1 - kM cs) (MQ below (va_Qi (fun (x : Int32) (_ : Unit) => x = r9) (fun _ t_ => va_P (dC, dI) vwCl (cW cB cI cJ cZ cS cO b cs9) t_.heap ∧ va_D A (cW cB cI cJ cZ cS cO b cs9) ∧ b + kK cs9 ≤ t_.heap.size) A) ([.ref (b + x0), .ref (b + x1), .int x2, .int x3, .int x4, .int x5] : List Value).toArray s (kK cs9 - kK cs) (kM cs9 - kM cs) A) (F0 m 21 ls []) := by
    intro lf_21
    induction lf_21 with
    | zero => intro cs1 u0 u1 u2 u3 u4 u5 u6 u7 u8 h; cases (show (none : Option (CS × Int32)) = _ from h)
    | succ lf_21 ih_21 =>
      have B_75 : ∀ (cs1 : CS) (u0 : Nat) (u1 : Nat) (u2 : Int32) (u3 : Int32) (u4 : Int32) (u5 : Int32) (u6 : Int32) (u7 : Int32) (u8 : Int32), c_X4_order_b75 F (c_X4_order_L21 F lf_21) cs1 u0 u1 u2 u3 u4 u5 u6 u7 u8 = some (cs9, r9) → kK cs ≤ kK cs1 → kM cs ≤ kM cs1 → ∀ (Gh H : Heap) (locs : List Loc) (ls : Array Slot), va_P (dC, dI) vwCl (cW cB cI cJ cZ cS cO b cs1) H → va_D A (cW cB cI cJ cZ cS cO b cs1) → va_S A s.heap Gh [] → Gh.size = b + kK cs1 → va_S A Gh H locs → lv_has ls 10 [(0, .ref (b + u0)), (1, .ref (b + u1)), (2, .int u2), (3, .int u3), (4, .int u4), (5, .int u5), (6, .int u6), (7, .int u7), (8, .int u8)] → W p l e (headSpec (wsOf yX4_order cX4_order 10 (some .int)) ({ frames := 6, cells := kK cs9 - kK cs, slots := kM cs9 - kM cs, locals := 60 * (6) } : Room)).room s m ([.ref (b + x0), .ref (b + x1), .int x2, .int x3, .int x4, .int x5] : List Value).toArray below meth c H locs (kK cs1 - kK cs) (kM cs1 - kM cs) (MQ below (va_Qi (fun (x : Int32) (_ : Unit) => x = r9) (fun _ t_ => va_P (dC, dI) vwCl (cW cB cI cJ cZ cS cO b cs9) t_.heap ∧ va_D A (cW cB cI cJ cZ cS cO b cs9) ∧ b + kK cs9 ≤ t_.heap.size) A) ([.ref (b + x0), .ref (b + x1), .int x2, .int x3, .int x4, .int x5] : List Value).toArray s (kK cs9 - kK cs) (kM cs9 - kM cs) A) (F0 m 75 ls []) := by
        intro cs1 u0 u1 u2 u3 u4 u5 u6 u7 u8 h hmk hmm Gh H locs ls hP hD hG hgz hS hl
        obtain ⟨kb9, mb9⟩ := mo_c_X4_order_b75 F (c_X4_order_L21 F lf_21) (mo_c_X4_order_L21 F lf_21) cs1 u0 u1 u2 u3 u4 u5 u6 u7 u8 cs9 r9 h
        unfold c_X4_order_b75 at h
        refine lv_iinc (v := u8 + 1) (lv' := [(8, .int (u8 + 1)), (0, .ref (b + u0)), (1, .ref (b + u1)), (2, .int u2), (3, .int u3), (4, .int u4), (5, .int u5), (6, .int u6), (7, .int u7)]) hx hb dX4_order_75 hl (k := 8) rfl rfl (by decide) rfl (fun ls hl => ?_)
        refine lv_goto (tgt := 21) hx hb dX4_order_78 (by decide) ?_
        refine W_cnt (c2 := kK cs1 - kK cs) (n2 := kM cs1 - kM cs) (by omega) (by omega) ?_
        exact ih_21 cs1 u0 u1 u2 u3 u4 u5 u6 u7 (u8 + 1) h (by omega) (by omega) _ _ _ _ hP hD hG (by omega) hS (lv_sub hl [1, 2, 3, 4, 5, 6, 7, 8, 0] rfl)
      have B_52 : ∀ (cs1 : CS) (u0 : Nat) (u1 : Nat) (u2 : Int32) (u3 : Int32) (u4 : Int32) (u5 : Int32) (u6 : Int32) (u7 : Int32) (u8 : Int32) (u9 : Int32), c_X4_order_b52 F (c_X4_order_L21 F lf_21) cs1 u0 u1 u2 u3 u4 u5 u6 u7 u8 u9 = some (cs9, r9) → kK cs ≤ kK cs1 → kM cs ≤ kM cs1 → ∀ (Gh H : Heap) (locs : List Loc) (ls : Array Slot), va_P (dC, dI) vwCl (cW cB cI cJ cZ cS cO b cs1) H → va_D A (cW cB cI cJ cZ cS cO b cs1) → va_S A s.heap Gh [] → Gh.size = b + kK cs1 → va_S A Gh H locs → lv_has ls 10 [(0, .ref (b + u0)), (1, .ref (b + u1)), (2, .int u2), (3, .int u3), (4, .int u4), (5, .int u5), (6, .int u6), (7, .int u7), (8, .int u8), (9, .int u9)] → W p l e (headSpec (wsOf yX4_order cX4_order 10 (some .int)) ({ frames := 6, cells := kK cs9 - kK cs, slots := kM cs9 - kM cs, locals := 60 * (6) } : Room)).room s m ([.ref (b + x0), .ref (b + x1), .int x2, .int x3, .int x4, .int x5] : List Value).toArray below meth c H locs (kK cs1 - kK cs) (kM cs1 - kM cs) (MQ below (va_Qi (fun (x : Int32) (_ : Unit) => x = r9) (fun _ t_ => va_P (dC, dI) vwCl (cW cB cI cJ cZ cS cO b cs9) t_.heap ∧ va_D A (cW cB cI cJ cZ cS cO b cs9) ∧ b + kK cs9 ≤ t_.heap.size) A) ([.ref (b + x0), .ref (b + x1), .int x2, .int x3, .int x4, .int x5] : List Value).toArray s (kK cs9 - kK cs) (kM cs9 - kM cs) A) (F0 m 52 ls []) := by
        intro cs1 u0 u1 u2 u3 u4 u5 u6 u7 u8 u9 h hmk hmm Gh H locs ls hP hD hG hgz hS hl
        obtain ⟨kb9, mb9⟩ := mo_c_X4_order_b52 F (c_X4_order_L21 F lf_21) (mo_c_X4_order_L21 F lf_21) cs1 u0 u1 u2 u3 u4 u5 u6 u7 u8 u9 cs9 r9 h
        unfold c_X4_order_b52 at h
        refine lv_aload_n hx hb dX4_order_52 rfl (lv_at hl 0 rfl) ?_
        replace h := ob h; obtain ⟨v_7, hv_7, h⟩ := h
        refine fg_X4_19 hx hb hts hown hK hP hv_7 dX4_order_53 ?_
        refine lv_iload_n hx hb dX4_order_56 rfl (lv_at hl 3 rfl) ?_
        refine lv_iload hx hb dX4_order_57 (lv_at hl 8 rfl) ?_
        refine lv_iload hx hb dX4_order_59 (lv_at hl 5 rfl) ?_
        refine lv_imul hx hb dX4_order_61 ?_
        refine lv_iadd hx hb dX4_order_62 ?_
        refine lv_iload hx hb dX4_order_63 (lv_at hl 9 rfl) ?_
        refine lv_aload_n hx hb dX4_order_65 rfl (lv_at hl 1 rfl) ?_
        replace h := ob h; obtain ⟨v_8, hv_8, h⟩ := h
        refine fg_X4_29 hx hb hts hown hK hP hv_8 dX4_order_66 ?_
        refine lv_iadd hx hb dX4_order_69 ?_
        refine lv_iload hx hb dX4_order_70 (lv_at hl 5 rfl) ?_
        replace h := ob h; obtain ⟨i_10, hi_10, h⟩ := h
        subst hi_10
        replace h := ob h; obtain ⟨w_11, hw_11, h⟩ := h
        replace h := ob h; obtain ⟨cs_9, hv_9, h⟩ := h
        obtain ⟨qk_9, qm_9⟩ := mo_c_X8_copy F cs1 i_10 (u3 + (u8 * u5)) (u9 + v_8) u5 cs_9 hv_9
        obtain ⟨k9_9, m9_9⟩ := mo_c_X4_order_b75 F (c_X4_order_L21 F lf_21) (mo_c_X4_order_L21 F lf_21) cs_9 u0 u1 u2 u3 u4 u5 u6 u7 u8 cs9 r9 h
        refine cavV (As := [.int (u3 + (u8 * u5)), .int (u9 + v_8), .int u5]) hx hb hml hts hown hK hP hD hS hG hA (by omega) (by omega) hZ (X := 9) (by decide) rfl (ckE_some hw_11) (sa_X8_copy l dC dI cB cI cJ cZ cS cO b K V fz F cs1 i_10 (u3 + (u8 * u5)) (u9 + v_8) u5 cs_9 hv_9) (cw_X4_X8_copy hts (fr := 4) (Nat.le_of_ble_eq_true rfl) (Nat.le_of_ble_eq_true rfl)) rfl hl.1 (Nat.le_of_ble_eq_true rfl) ⟨by show kK cs1 - kK cs + (kK cs_9 - kK cs1) ≤ kK cs9 - kK cs; omega, by show kM cs1 - kM cs + (kM cs_9 - kM cs1) ≤ kM cs9 - kM cs; omega⟩ dX4_order_72 (fun H locs hP hD hG hgz hS => ?_)
        refine W_cnt (c2 := kK cs_9 - kK cs) (n2 := kM cs_9 - kM cs) (by omega) (by omega) ?_
        exact B_75 cs_9 u0 u1 u2 u3 u4 u5 u6 u7 u8 h (by omega) (by omega) _ _ _ _ hP hD hG (by omega) hS (lv_sub hl [0, 1, 2, 3, 4, 5, 6, 7, 8] rfl)
      intro cs1 u0 u1 u2 u3 u4 u5 u6 u7 u8 h hmk hmm Gh H locs ls hP hD hG hgz hS hl
      obtain ⟨kb9, mb9⟩ := mo_c_X4_order_L21 F (lf_21 + 1) cs1 u0 u1 u2 u3 u4 u5 u6 u7 u8 cs9 r9 h
      rw [c_X4_order_L21] at h
      refine lv_iload hx hb dX4_order_21 (lv_at hl 8 rfl) ?_
      refine lv_iload hx hb dX4_order_23 (lv_at hl 4 rfl) ?_
      refine lv_icmp_ge (tgt := 81) hx hb dX4_order_25 (by decide) (fun c_12 => ?_) (fun c_12 => ?_)
      · skip
        replace h := (if_pos c_12).symm.trans h
        refine lv_aload_n hx hb dX4_order_81 rfl (lv_at hl 0 rfl) ?_
        replace h := ob h; obtain ⟨v_13, hv_13, h⟩ := h
        refine fg_X4_19 hx hb hts hown hK hP hv_13 dX4_order_82 ?_
        refine lv_iload hx hb dX4_order_85 (lv_at hl 7 rfl) ?_
        refine lv_iload hx hb dX4_order_87 (lv_at hl 4 rfl) ?_
        refine lv_iload hx hb dX4_order_89 (lv_at hl 6 rfl) ?_
        refine lv_aload_n hx hb dX4_order_91 rfl (lv_at hl 1 rfl) ?_
        replace h := ob h; obtain ⟨w_15, hw_15, h⟩ := h
        replace h := ob h; obtain ⟨v_14, hv_14, h⟩ := h
        refine cbvI (As := []) hx hb hml hts hown hK hP hD hS hG hA (by omega) (by omega) hZ (X := 3) (by decide) rfl (ckE_some hw_15) (sc_X2_markBits l dC dI cB cI cJ cZ cS cO b K V fz F cs1 u1 v_14 hv_14) (cw_X4_X2_markBits hts (fr := 0) (Nat.le_of_ble_eq_true rfl) (Nat.le_of_ble_eq_true rfl)) rfl hl.1 (by simp only [List.map, List.sum_cons, List.sum_nil, rv_cat]; exact Nat.le_of_ble_eq_true rfl) ⟨by show kK cs1 - kK cs ≤ kK cs9 - kK cs; omega, by show kM cs1 - kM cs ≤ kM cs9 - kM cs; omega⟩ dX4_order_92 (fun H locs hP hD hG hgz hS => ?_)
        replace h := ob h; obtain ⟨i_17, hi_17, h⟩ := h
        subst hi_17
        replace h := ob h; obtain ⟨w_18, hw_18, h⟩ := h
        replace h := ob h; obtain ⟨cs_16, hv_16, h⟩ := h
        obtain ⟨qk_16, qm_16⟩ := mo_c_X8_sort F cs1 i_17 u7 u4 u6 v_14 cs_16 hv_16
        obtain ⟨k9_16, m9_16⟩ := mo_c_X4_order_b98 F cs_16 u0 u1 u2 u3 u4 u5 u6 u7 cs9 r9 h
        refine cavV (As := [.int u7, .int u4, .int u6, .int v_14]) hx hb hml hts hown hK hP hD hS hG hA (by omega) (by omega) hZ (X := 9) (by decide) rfl (ckE_some hw_18) (sa_X8_sort l dC dI cB cI cJ cZ cS cO b K V fz F cs1 i_17 u7 u4 u6 v_14 cs_16 hv_16) (cw_X4_X8_sort hts (fr := 5) (Nat.le_of_ble_eq_true rfl) (Nat.le_of_ble_eq_true rfl)) rfl hl.1 (Nat.le_of_ble_eq_true rfl) ⟨by show kK cs1 - kK cs + (kK cs_16 - kK cs1) ≤ kK cs9 - kK cs; omega, by show kM cs1 - kM cs + (kM cs_16 - kM cs1) ≤ kM cs9 - kM cs; omega⟩ dX4_order_95 (fun H locs hP hD hG hgz hS => ?_)
        refine W_cnt (c2 := kK cs_16 - kK cs) (n2 := kM cs_16 - kM cs) (by omega) (by omega) ?_
        exact B_98 cs_16 u0 u1 u2 u3 u4 u5 u6 u7 h (by omega) (by omega) _ _ _ _ hP hD hG (by omega) hS (lv_sub hl [0, 1, 2, 3, 4, 5, 6, 7] rfl)
      · skip
        replace h := (if_neg c_12).symm.trans h
        refine lv_iload hx hb dX4_order_28 (lv_at hl 7 rfl) ?_
        refine lv_iload hx hb dX4_order_30 (lv_at hl 8 rfl) ?_
        refine lv_iload hx hb dX4_order_32 (lv_at hl 6 rfl) ?_
        refine lv_imul hx hb dX4_order_34 ?_
        refine lv_iadd hx hb dX4_order_35 ?_
        refine lv_istore (lv' := [(9, .int (u7 + (u8 * u6))), (0, .ref (b + u0)), (1, .ref (b + u1)), (2, .int u2), (3, .int u3), (4, .int u4), (5, .int u5), (6, .int u6), (7, .int u7), (8, .int u8)]) hx hb dX4_order_36 hl (by decide) rfl (fun ls hl => ?_)
        refine lv_aload_n hx hb dX4_order_38 rfl (lv_at hl 1 rfl) ?_
        refine lv_aload_n hx hb dX4_order_39 rfl (lv_at hl 2 rfl) ?_
        refine lv_iload_n hx hb dX4_order_40 rfl (lv_at hl 4 rfl) ?_
        refine lv_iload hx hb dX4_order_41 (lv_at hl 9 rfl) ?_
        refine lv_iload hx hb dX4_order_43 (lv_at hl 6 rfl) ?_
        refine lv_imul hx hb dX4_order_45 ?_
        refine lv_iadd hx hb dX4_order_46 ?_
        refine lv_iload hx hb dX4_order_47 (lv_at hl 0 rfl) ?_
        replace h := ob h; obtain ⟨w_20, hw_20, h⟩ := h
        replace h := ob h; obtain ⟨cs_19, hv_19, h⟩ := h
        obtain ⟨qk_19, qm_19⟩ := mo_c_X4_computeAll F cs1 u0 u1 (u3 + (u8 * u5)) (u7 + (u8 * u6)) cs_19 hv_19
        obtain ⟨k9_19, m9_19⟩ := mo_c_X4_order_b52 F (c_X4_order_L21 F lf_21) (mo_c_X4_order_L21 F lf_21) cs_19 u0 u1 u2 u3 u4 u5 u6 u7 u8 (u7 + (u8 * u6)) cs9 r9 h
        refine cavV (As := [.ref (b + u1), .int (u3 + (u8 * u5)), .int (u7 + (u8 * u6))]) hx hb hml hts hown hK hP hD hS hG hA (by omega) (by omega) hZ (X := 5) (by decide) rfl (ckE_some hw_20) (sa_X4_computeAll l dC dI cB cI cJ cZ cS cO b K V fz F cs1 u0 u1 (u3 + (u8 * u5)) (u7 + (u8 * u6)) cs_19 hv_19) (cw_X4_X4_computeAll hts (fr := 5) (Nat.le_of_ble_eq_true rfl) (Nat.le_of_ble_eq_true rfl)) rfl hl.1 (Nat.le_of_ble_eq_true rfl) ⟨by show kK cs1 - kK cs + (kK cs_19 - kK cs1) ≤ kK cs9 - kK cs; omega, by show kM cs1 - kM cs + (kM cs_19 - kM cs1) ≤ kM cs9 - kM cs; omega⟩ dX4_order_49 (fun H locs hP hD hG hgz hS => ?_)
        refine W_cnt (c2 := kK cs_19 - kK cs) (n2 := kM cs_19 - kM cs) (by omega) (by omega) ?_
        exact B_52 cs_19 u0 u1 u2 u3 u4 u5 u6 u7 u8 (u7 + (u8 * u6)) h (by omega) (by omega) _ _ _ _ hP hD hG (by omega) hS (lv_sub hl [1, 2, 3, 4, 5, 6, 7, 8, 9, 0] rfl)
  have h := hf
  unfold c_X4_order at h
  refine W_cnt (c2 := kK cs - kK cs) (n2 := kM cs - kM cs) (by omega) (by omega) ?_
  refine lv_aload_n hx hb dX4_order_0 rfl (lv_at hl 1 rfl) ?_
  replace h := ob h; obtain ⟨v_21, hv_21, h⟩ := h
  refine fg_X4_29 hx hb hts hown hK hP hv_21 dX4_order_1 ?_
  refine lv_iload hx hb dX4_order_4 (lv_at hl 5 rfl) ?_
  refine lv_iadd hx hb dX4_order_6 ?_
  refine lv_istore (lv' := [(6, .int (v_21 + x5)), (0, .ref (b + x0)), (1, .ref (b + x1)), (2, .int x2), (3, .int x3), (4, .int x4), (5, .int x5)]) hx hb dX4_order_7 hl (by decide) rfl (fun ls hl => ?_)
  refine lv_iload_n hx hb dX4_order_9 rfl (lv_at hl 4 rfl) ?_
  refine lv_iload hx hb dX4_order_10 (lv_at hl 5 rfl) ?_
  refine lv_iload hx hb dX4_order_12 (lv_at hl 6 rfl) ?_
  refine lv_imul hx hb dX4_order_14 ?_
  refine lv_iadd hx hb dX4_order_15 ?_
  refine lv_istore (lv' := [(7, .int (x3 + (x4 * x5))), (6, .int (v_21 + x5)), (0, .ref (b + x0)), (1, .ref (b + x1)), (2, .int x2), (3, .int x3), (4, .int x4), (5, .int x5)]) hx hb dX4_order_16 hl (by decide) rfl (fun ls hl => ?_)
  refine lv_iconst (v := 0) hx hb dX4_order_18 (by decide) ?_
  refine lv_istore (lv' := [(8, .int 0), (7, .int (x3 + (x4 * x5))), (6, .int (v_21 + x5)), (0, .ref (b + x0)), (1, .ref (b + x1)), (2, .int x2), (3, .int x3), (4, .int x4), (5, .int x5)]) hx hb dX4_order_19 hl (by decide) rfl (fun ls hl => ?_)
  refine W_cnt (c2 := kK cs - kK cs) (n2 := kM cs - kM cs) (by omega) (by omega) ?_
  exact L_21 F cs x0 x1 x2 x3 x4 x5 (v_21 + x5) (x3 + (x4 * x5)) 0 h (by omega) (by omega) _ _ _ _ hP hD hG (by omega) hS (lv_sub hl [3, 4, 5, 6, 7, 8, 2, 1, 0] rfl)
abbrev TC_X4_runQuery : Type := (CS → Nat → Nat → Int32 → Option (CS × Int32)) × (CS → Nat → Nat → Int32 → Option (CS × Int32)) × (CS → Nat → Nat → Int32 → Option (CS × Int32)) × (CS → Nat → Nat → Int32 → Option (CS × Int32))
theorem dX4_runQuery_0 : decode cX4_runQuery 0 = .ok (.iconst 0, 1) := by decide +kernel
theorem dX4_runQuery_1 : decode cX4_runQuery 1 = .ok (.istore_n 3, 1) := by decide +kernel
theorem dX4_runQuery_2 : decode cX4_runQuery 2 = .ok (.aload_n 1, 1) := by decide +kernel
theorem dX4_runQuery_3 : decode cX4_runQuery 3 = .ok (.getfield 23, 3) := by decide +kernel
theorem dX4_runQuery_6 : decode cX4_runQuery 6 = .ok (.getfield 29, 3) := by decide +kernel
theorem dX4_runQuery_9 : decode cX4_runQuery 9 = .ok (.istore 4, 2) := by decide +kernel
theorem dX4_runQuery_11 : decode cX4_runQuery 11 = .ok (.iconst 0, 1) := by decide +kernel
theorem dX4_runQuery_12 : decode cX4_runQuery 12 = .ok (.istore 5, 2) := by decide +kernel
theorem dX4_runQuery_14 : decode cX4_runQuery 14 = .ok (.iload 5, 2) := by decide +kernel
theorem dX4_runQuery_16 : decode cX4_runQuery 16 = .ok (.aload_n 1, 1) := by decide +kernel
theorem dX4_runQuery_17 : decode cX4_runQuery 17 = .ok (.getfield 35, 3) := by decide +kernel
theorem dX4_runQuery_20 : decode cX4_runQuery 20 = .ok (.invokevirtual 39, 3) := by decide +kernel
theorem dX4_runQuery_23 : decode cX4_runQuery 23 = .ok (.if_icmp .ge 67, 3) := by decide +kernel
theorem dX4_runQuery_26 : decode cX4_runQuery 26 = .ok (.aload_n 1, 1) := by decide +kernel
theorem dX4_runQuery_27 : decode cX4_runQuery 27 = .ok (.getfield 35, 3) := by decide +kernel
theorem dX4_runQuery_30 : decode cX4_runQuery 30 = .ok (.iload 5, 2) := by decide +kernel
theorem dX4_runQuery_32 : decode cX4_runQuery 32 = .ok (.invokevirtual 44, 3) := by decide +kernel
theorem dX4_runQuery_35 : decode cX4_runQuery 35 = .ok (.checkcast 48, 3) := by decide +kernel
theorem dX4_runQuery_38 : decode cX4_runQuery 38 = .ok (.astore 6, 2) := by decide +kernel
theorem dX4_runQuery_40 : decode cX4_runQuery 40 = .ok (.iload_n 2, 1) := by decide +kernel
theorem dX4_runQuery_41 : decode cX4_runQuery 41 = .ok (.iload_n 3, 1) := by decide +kernel
theorem dX4_runQuery_42 : decode cX4_runQuery 42 = .ok (.iload 4, 2) := by decide +kernel
theorem dX4_runQuery_44 : decode cX4_runQuery 44 = .ok (.imul, 1) := by decide +kernel
theorem dX4_runQuery_45 : decode cX4_runQuery 45 = .ok (.iadd, 1) := by decide +kernel
theorem dX4_runQuery_46 : decode cX4_runQuery 46 = .ok (.istore 7, 2) := by decide +kernel
theorem dX4_runQuery_48 : decode cX4_runQuery 48 = .ok (.aload_n 0, 1) := by decide +kernel
theorem dX4_runQuery_49 : decode cX4_runQuery 49 = .ok (.aload 6, 2) := by decide +kernel
theorem dX4_runQuery_51 : decode cX4_runQuery 51 = .ok (.iload 7, 2) := by decide +kernel
theorem dX4_runQuery_53 : decode cX4_runQuery 53 = .ok (.invokevirtual 50, 3) := by decide +kernel
theorem dX4_runQuery_56 : decode cX4_runQuery 56 = .ok (.istore 8, 2) := by decide +kernel
theorem dX4_runQuery_58 : decode cX4_runQuery 58 = .ok (.iload 5, 2) := by decide +kernel
theorem dX4_runQuery_60 : decode cX4_runQuery 60 = .ok (.ifCond .ne 8, 3) := by decide +kernel
theorem dX4_runQuery_63 : decode cX4_runQuery 63 = .ok (.iload 8, 2) := by decide +kernel
theorem dX4_runQuery_65 : decode cX4_runQuery 65 = .ok (.goto 18, 3) := by decide +kernel
theorem dX4_runQuery_68 : decode cX4_runQuery 68 = .ok (.aload_n 0, 1) := by decide +kernel
theorem dX4_runQuery_69 : decode cX4_runQuery 69 = .ok (.aload 6, 2) := by decide +kernel
theorem dX4_runQuery_71 : decode cX4_runQuery 71 = .ok (.getfield 54, 3) := by decide +kernel
theorem dX4_runQuery_74 : decode cX4_runQuery 74 = .ok (.iload_n 2, 1) := by decide +kernel
theorem dX4_runQuery_75 : decode cX4_runQuery 75 = .ok (.iload_n 3, 1) := by decide +kernel
theorem dX4_runQuery_76 : decode cX4_runQuery 76 = .ok (.iload 8, 2) := by decide +kernel
theorem dX4_runQuery_78 : decode cX4_runQuery 78 = .ok (.iload 4, 2) := by decide +kernel
theorem dX4_runQuery_80 : decode cX4_runQuery 80 = .ok (.invokevirtual 57, 3) := by decide +kernel
theorem dX4_runQuery_83 : decode cX4_runQuery 83 = .ok (.istore_n 3, 1) := by decide +kernel
theorem dX4_runQuery_84 : decode cX4_runQuery 84 = .ok (.iinc 5 1, 3) := by decide +kernel
theorem dX4_runQuery_87 : decode cX4_runQuery 87 = .ok (.goto (-73), 3) := by decide +kernel
theorem dX4_runQuery_90 : decode cX4_runQuery 90 = .ok (.aload_n 1, 1) := by decide +kernel
theorem dX4_runQuery_91 : decode cX4_runQuery 91 = .ok (.getfield 61, 3) := by decide +kernel
theorem dX4_runQuery_94 : decode cX4_runQuery 94 = .ok (.ifnonnull 7, 3) := by decide +kernel
theorem dX4_runQuery_97 : decode cX4_runQuery 97 = .ok (.iload_n 3, 1) := by decide +kernel
theorem dX4_runQuery_98 : decode cX4_runQuery 98 = .ok (.goto 19, 3) := by decide +kernel
theorem dX4_runQuery_101 : decode cX4_runQuery 101 = .ok (.aload_n 0, 1) := by decide +kernel
theorem dX4_runQuery_102 : decode cX4_runQuery 102 = .ok (.aload_n 1, 1) := by decide +kernel
theorem dX4_runQuery_103 : decode cX4_runQuery 103 = .ok (.getfield 61, 3) := by decide +kernel
theorem dX4_runQuery_106 : decode cX4_runQuery 106 = .ok (.aload_n 1, 1) := by decide +kernel
theorem dX4_runQuery_107 : decode cX4_runQuery 107 = .ok (.getfield 64, 3) := by decide +kernel
theorem dX4_runQuery_110 : decode cX4_runQuery 110 = .ok (.iload_n 2, 1) := by decide +kernel
theorem dX4_runQuery_111 : decode cX4_runQuery 111 = .ok (.iload_n 3, 1) := by decide +kernel
theorem dX4_runQuery_112 : decode cX4_runQuery 112 = .ok (.iload 4, 2) := by decide +kernel
theorem dX4_runQuery_114 : decode cX4_runQuery 114 = .ok (.invokevirtual 67, 3) := by decide +kernel
theorem dX4_runQuery_117 : decode cX4_runQuery 117 = .ok (.ireturn, 1) := by decide +kernel
def c_X4_runQuery_b117 (F : Nat) (T : TC_X4_runQuery) (cs1 : CS) (y0 : Int32) : Option (CS × Int32) := some (cs1, y0)
def c_X4_runQuery_b83 (F : Nat) (T : TC_X4_runQuery) (rc14 : CS → Nat → Nat → Int32 → Int32 → Int32 → Int32 → Option (CS × Int32)) (cs1 : CS) (u0 : Nat) (u1 : Nat) (u2 : Int32) (u4 : Int32) (u5 : Int32) (y0 : Int32) : Option (CS × Int32) := rc14 cs1 u0 u1 u2 y0 u4 (u5 + 1)
def c_X4_runQuery_b56 (F : Nat) (T : TC_X4_runQuery) (rc14 : CS → Nat → Nat → Int32 → Int32 → Int32 → Int32 → Option (CS × Int32)) (cs1 : CS) (u0 : Nat) (u1 : Nat) (u2 : Int32) (u3 : Int32) (u4 : Int32) (u5 : Int32) (u6 : Nat) (y0 : Int32) : Option (CS × Int32) := if u5 = 0 then (c_X4_runQuery_b83 F T rc14 cs1 u0 u1 u2 u4 u5 y0) else (Option.bind (gI cs1 6 204 u6) fun v_2 => Option.bind (ckE cs1 5 u0) fun _ => Option.bind (c_X4_combine F cs1 u0 v_2 u2 u3 y0 u4) fun z_3 => c_X4_runQuery_b83 F T rc14 z_3.1 u0 u1 u2 u4 u5 z_3.2)
def c_X4_runQuery_L14 (F : Nat) (T : TC_X4_runQuery) : Nat → CS → Nat → Nat → Int32 → Int32 → Int32 → Int32 → Option (CS × Int32)
  | 0, _, _, _, _, _, _, _ => none
  | lf_14 + 1, cs1, u0, u1, u2, u3, u4, u5 => Option.bind (gR cs1 4 128 u1) fun v_5 => Option.bind (v_5) fun i_7 => Option.bind (ckE cs1 0 i_7) fun _ => Option.bind (c_Jx4a65c_size_8abf5 F cs1 i_7) fun v_6 => if v_6 ≤ u5 then (Option.bind (gR cs1 4 130 u1) fun v_10 => oc v_10 (c_X4_runQuery_b117 F T cs1 u3) (fun i_11 => Option.bind (gR cs1 4 130 u1) fun v_12 => Option.bind (gI cs1 4 132 u1) fun v_13 => Option.bind (v_12) fun i_14 => Option.bind (ckE cs1 5 u0) fun _ => Option.bind (c_X4_order F cs1 u0 i_14 v_13 u2 u3 u4) fun z_15 => c_X4_runQuery_b117 F T z_15.1 z_15.2)) else (Option.bind (gR cs1 4 128 u1) fun v_17 => Option.bind (v_17) fun i_19 => Option.bind (ckE cs1 0 i_19) fun _ => Option.bind (c_Jx4a65c_get_915e3 F cs1 i_19 u5) fun v_18 => Option.bind (ckE cs1 6 v_18) fun _ => Option.bind (ckE cs1 5 u0) fun _ => Option.bind (T.2.1 cs1 u0 v_18 (u2 + (u3 * u4))) fun z_22 => c_X4_runQuery_b56 F T (c_X4_runQuery_L14 F T lf_14) z_22.1 u0 u1 u2 u3 u4 u5 v_18 z_22.2)
def cb_X4_runQuery (F : Nat) (T : TC_X4_runQuery) (cs : CS) (x0 : Nat) (x1 : Nat) (x2 : Int32) : Option (CS × Int32) := Option.bind (gR cs 4 129 x1) fun v_24 => Option.bind (v_24) fun i_25 => Option.bind (gI cs 3 96 i_25) fun v_26 => c_X4_runQuery_L14 F T F cs x0 x1 x2 0 v_26 0
theorem dX4_runSelect_0 : decode cX4_runSelect 0 = .ok (.aload_n 0, 1) := by decide +kernel
theorem dX4_runSelect_1 : decode cX4_runSelect 1 = .ok (.aload_n 1, 1) := by decide +kernel
theorem dX4_runSelect_2 : decode cX4_runSelect 2 = .ok (.iload_n 2, 1) := by decide +kernel
theorem dX4_runSelect_3 : decode cX4_runSelect 3 = .ok (.invokevirtual 132, 3) := by decide +kernel
theorem dX4_runSelect_6 : decode cX4_runSelect 6 = .ok (.istore_n 3, 1) := by decide +kernel
theorem dX4_runSelect_7 : decode cX4_runSelect 7 = .ok (.aload_n 1, 1) := by decide +kernel
theorem dX4_runSelect_8 : decode cX4_runSelect 8 = .ok (.invokevirtual 135, 3) := by decide +kernel
theorem dX4_runSelect_11 : decode cX4_runSelect 11 = .ok (.istore 4, 2) := by decide +kernel
theorem dX4_runSelect_13 : decode cX4_runSelect 13 = .ok (.aload_n 0, 1) := by decide +kernel
theorem dX4_runSelect_14 : decode cX4_runSelect 14 = .ok (.aload_n 1, 1) := by decide +kernel
theorem dX4_runSelect_15 : decode cX4_runSelect 15 = .ok (.getfield 138, 3) := by decide +kernel
theorem dX4_runSelect_18 : decode cX4_runSelect 18 = .ok (.iload_n 2, 1) := by decide +kernel
theorem dX4_runSelect_19 : decode cX4_runSelect 19 = .ok (.iload_n 3, 1) := by decide +kernel
theorem dX4_runSelect_20 : decode cX4_runSelect 20 = .ok (.iload 4, 2) := by decide +kernel
theorem dX4_runSelect_22 : decode cX4_runSelect 22 = .ok (.invokevirtual 141, 3) := by decide +kernel
theorem dX4_runSelect_25 : decode cX4_runSelect 25 = .ok (.istore_n 3, 1) := by decide +kernel
theorem dX4_runSelect_26 : decode cX4_runSelect 26 = .ok (.aload_n 1, 1) := by decide +kernel
theorem dX4_runSelect_27 : decode cX4_runSelect 27 = .ok (.invokevirtual 145, 3) := by decide +kernel
theorem dX4_runSelect_30 : decode cX4_runSelect 30 = .ok (.ifCond .eq 27, 3) := by decide +kernel
theorem dX4_runSelect_33 : decode cX4_runSelect 33 = .ok (.aload_n 0, 1) := by decide +kernel
theorem dX4_runSelect_34 : decode cX4_runSelect 34 = .ok (.aload_n 1, 1) := by decide +kernel
theorem dX4_runSelect_35 : decode cX4_runSelect 35 = .ok (.iload_n 2, 1) := by decide +kernel
theorem dX4_runSelect_36 : decode cX4_runSelect 36 = .ok (.iload_n 3, 1) := by decide +kernel
theorem dX4_runSelect_37 : decode cX4_runSelect 37 = .ok (.iload 4, 2) := by decide +kernel
theorem dX4_runSelect_39 : decode cX4_runSelect 39 = .ok (.invokevirtual 149, 3) := by decide +kernel
theorem dX4_runSelect_42 : decode cX4_runSelect 42 = .ok (.istore_n 3, 1) := by decide +kernel
theorem dX4_runSelect_43 : decode cX4_runSelect 43 = .ok (.aload_n 1, 1) := by decide +kernel
theorem dX4_runSelect_44 : decode cX4_runSelect 44 = .ok (.getfield 153, 3) := by decide +kernel
theorem dX4_runSelect_47 : decode cX4_runSelect 47 = .ok (.getfield 29, 3) := by decide +kernel
theorem dX4_runSelect_50 : decode cX4_runSelect 50 = .ok (.aload_n 1, 1) := by decide +kernel
theorem dX4_runSelect_51 : decode cX4_runSelect 51 = .ok (.getfield 156, 3) := by decide +kernel
theorem dX4_runSelect_54 : decode cX4_runSelect 54 = .ok (.iadd, 1) := by decide +kernel
theorem dX4_runSelect_55 : decode cX4_runSelect 55 = .ok (.istore 4, 2) := by decide +kernel
theorem dX4_runSelect_57 : decode cX4_runSelect 57 = .ok (.aload_n 0, 1) := by decide +kernel
theorem dX4_runSelect_58 : decode cX4_runSelect 58 = .ok (.aload_n 1, 1) := by decide +kernel
theorem dX4_runSelect_59 : decode cX4_runSelect 59 = .ok (.getfield 159, 3) := by decide +kernel
theorem dX4_runSelect_62 : decode cX4_runSelect 62 = .ok (.iload_n 2, 1) := by decide +kernel
theorem dX4_runSelect_63 : decode cX4_runSelect 63 = .ok (.iload_n 3, 1) := by decide +kernel
theorem dX4_runSelect_64 : decode cX4_runSelect 64 = .ok (.iload 4, 2) := by decide +kernel
theorem dX4_runSelect_66 : decode cX4_runSelect 66 = .ok (.invokevirtual 141, 3) := by decide +kernel
theorem dX4_runSelect_69 : decode cX4_runSelect 69 = .ok (.istore_n 3, 1) := by decide +kernel
theorem dX4_runSelect_70 : decode cX4_runSelect 70 = .ok (.aload_n 0, 1) := by decide +kernel
theorem dX4_runSelect_71 : decode cX4_runSelect 71 = .ok (.aload_n 1, 1) := by decide +kernel
theorem dX4_runSelect_72 : decode cX4_runSelect 72 = .ok (.getfield 162, 3) := by decide +kernel
theorem dX4_runSelect_75 : decode cX4_runSelect 75 = .ok (.iload_n 2, 1) := by decide +kernel
theorem dX4_runSelect_76 : decode cX4_runSelect 76 = .ok (.iload_n 3, 1) := by decide +kernel
theorem dX4_runSelect_77 : decode cX4_runSelect 77 = .ok (.iload 4, 2) := by decide +kernel
theorem dX4_runSelect_79 : decode cX4_runSelect 79 = .ok (.invokevirtual 163, 3) := by decide +kernel
theorem dX4_runSelect_82 : decode cX4_runSelect 82 = .ok (.aload_n 1, 1) := by decide +kernel
theorem dX4_runSelect_83 : decode cX4_runSelect 83 = .ok (.getfield 167, 3) := by decide +kernel
theorem dX4_runSelect_86 : decode cX4_runSelect 86 = .ok (.ifCond .ne 5, 3) := by decide +kernel
theorem dX4_runSelect_89 : decode cX4_runSelect 89 = .ok (.iload_n 3, 1) := by decide +kernel
theorem dX4_runSelect_90 : decode cX4_runSelect 90 = .ok (.ireturn, 1) := by decide +kernel
theorem dX4_runSelect_91 : decode cX4_runSelect 91 = .ok (.aload_n 0, 1) := by decide +kernel
theorem dX4_runSelect_92 : decode cX4_runSelect 92 = .ok (.getfield 19, 3) := by decide +kernel
theorem dX4_runSelect_95 : decode cX4_runSelect 95 = .ok (.iload_n 2, 1) := by decide +kernel
theorem dX4_runSelect_96 : decode cX4_runSelect 96 = .ok (.iload_n 3, 1) := by decide +kernel
theorem dX4_runSelect_97 : decode cX4_runSelect 97 = .ok (.aload_n 1, 1) := by decide +kernel
theorem dX4_runSelect_98 : decode cX4_runSelect 98 = .ok (.getfield 162, 3) := by decide +kernel
theorem dX4_runSelect_101 : decode cX4_runSelect 101 = .ok (.getfield 29, 3) := by decide +kernel
theorem dX4_runSelect_104 : decode cX4_runSelect 104 = .ok (.iconst 0, 1) := by decide +kernel
theorem dX4_runSelect_105 : decode cX4_runSelect 105 = .ok (.invokevirtual 75, 3) := by decide +kernel
theorem dX4_runSelect_108 : decode cX4_runSelect 108 = .ok (.aload_n 0, 1) := by decide +kernel
theorem dX4_runSelect_109 : decode cX4_runSelect 109 = .ok (.getfield 19, 3) := by decide +kernel
theorem dX4_runSelect_112 : decode cX4_runSelect 112 = .ok (.iload_n 2, 1) := by decide +kernel
theorem dX4_runSelect_113 : decode cX4_runSelect 113 = .ok (.iload_n 3, 1) := by decide +kernel
theorem dX4_runSelect_114 : decode cX4_runSelect 114 = .ok (.aload_n 1, 1) := by decide +kernel
theorem dX4_runSelect_115 : decode cX4_runSelect 115 = .ok (.getfield 162, 3) := by decide +kernel
theorem dX4_runSelect_118 : decode cX4_runSelect 118 = .ok (.getfield 29, 3) := by decide +kernel
theorem dX4_runSelect_121 : decode cX4_runSelect 121 = .ok (.invokevirtual 81, 3) := by decide +kernel
theorem dX4_runSelect_124 : decode cX4_runSelect 124 = .ok (.ireturn, 1) := by decide +kernel
def c_X4_runSelect_b124 (F : Nat) (T : TC_X4_runQuery) (cs1 : CS) (y0 : Int32) : Option (CS × Int32) := some (cs1, y0)
def c_X4_runSelect_b108 (F : Nat) (T : TC_X4_runQuery) (cs1 : CS) (u0 : Nat) (u1 : Nat) (u2 : Int32) (u3 : Int32) : Option (CS × Int32) := Option.bind (gR cs1 5 162 u0) fun v_1 => Option.bind (gR cs1 6 194 u1) fun v_2 => Option.bind (v_2) fun i_3 => Option.bind (gI cs1 3 96 i_3) fun v_4 => Option.bind (v_1) fun i_6 => Option.bind (ckE cs1 9 i_6) fun _ => Option.bind (c_X8_once F cs1 i_6 u2 u3 v_4) fun z_5 => c_X4_runSelect_b124 F T z_5.1 z_5.2
def c_X4_runSelect_b82 (F : Nat) (T : TC_X4_runQuery) (cs1 : CS) (u0 : Nat) (u1 : Nat) (u2 : Int32) (u3 : Int32) : Option (CS × Int32) := Option.bind (gI cs1 6 192 u1) fun v_8 => if v_8 = 0 then (some (cs1, u3)) else (Option.bind (gR cs1 5 162 u0) fun v_10 => Option.bind (gR cs1 6 194 u1) fun v_11 => Option.bind (v_11) fun i_12 => Option.bind (gI cs1 3 96 i_12) fun v_13 => Option.bind (v_10) fun i_15 => Option.bind (ckE cs1 9 i_15) fun _ => Option.bind (c_X8_sort F cs1 i_15 u2 u3 v_13 0) fun cs_14 => c_X4_runSelect_b108 F T cs_14 u0 u1 u2 u3)
def c_X4_runSelect_b69 (F : Nat) (T : TC_X4_runQuery) (cs1 : CS) (u0 : Nat) (u1 : Nat) (u2 : Int32) (u4 : Int32) (y0 : Int32) : Option (CS × Int32) := Option.bind (gR cs1 6 194 u1) fun v_17 => Option.bind (v_17) fun i_18 => Option.bind (ckE cs1 5 u0) fun _ => Option.bind (c_X4_project F cs1 u0 i_18 u2 y0 u4) fun cs_19 => c_X4_runSelect_b82 F T cs_19 u0 u1 u2 y0
def c_X4_runSelect_b57 (F : Nat) (T : TC_X4_runQuery) (cs1 : CS) (u0 : Nat) (u1 : Nat) (u2 : Int32) (u3 : Int32) (u4 : Int32) : Option (CS × Int32) := Option.bind (gI cs1 6 201 u1) fun v_21 => Option.bind (ckE cs1 5 u0) fun _ => Option.bind (c_X4_filter F cs1 u0 v_21 u2 u3 u4) fun z_22 => c_X4_runSelect_b69 F T z_22.1 u0 u1 u2 u4 z_22.2
def c_X4_runSelect_b42 (F : Nat) (T : TC_X4_runQuery) (cs1 : CS) (u0 : Nat) (u1 : Nat) (u2 : Int32) (y0 : Int32) : Option (CS × Int32) := Option.bind (gR cs1 6 200 u1) fun v_24 => Option.bind (v_24) fun i_25 => Option.bind (gI cs1 3 96 i_25) fun v_26 => Option.bind (gI cs1 6 203 u1) fun v_27 => c_X4_runSelect_b57 F T cs1 u0 u1 u2 y0 (v_26 + v_27)
def c_X4_runSelect_b25 (F : Nat) (T : TC_X4_runQuery) (cs1 : CS) (u0 : Nat) (u1 : Nat) (u2 : Int32) (u4 : Int32) (y0 : Int32) : Option (CS × Int32) := Option.bind (ckE cs1 6 u1) fun _ => Option.bind (c_X5_isGrouped F cs1 u1) fun v_28 => if v_28 = 0 then (c_X4_runSelect_b57 F T cs1 u0 u1 u2 y0 u4) else (Option.bind (ckE cs1 5 u0) fun _ => Option.bind (c_X4_group F cs1 u0 u1 u2 y0 u4) fun z_31 => c_X4_runSelect_b42 F T z_31.1 u0 u1 u2 z_31.2)
def c_X4_runSelect_b6 (F : Nat) (T : TC_X4_runQuery) (cs1 : CS) (u0 : Nat) (u1 : Nat) (u2 : Int32) (y0 : Int32) : Option (CS × Int32) := Option.bind (ckE cs1 6 u1) fun _ => Option.bind (c_X5_joinedWidth F cs1 u1) fun v_33 => Option.bind (gI cs1 6 197 u1) fun v_35 => Option.bind (ckE cs1 5 u0) fun _ => Option.bind (c_X4_filter F cs1 u0 v_35 u2 y0 v_33) fun z_36 => c_X4_runSelect_b25 F T z_36.1 u0 u1 u2 v_33 z_36.2
def cb_X4_runSelect (F : Nat) (T : TC_X4_runQuery) (cs : CS) (x0 : Nat) (x1 : Nat) (x2 : Int32) : Option (CS × Int32) := Option.bind (ckE cs 5 x0) fun _ => Option.bind (T.2.2.1 cs x0 x1 x2) fun z_38 => c_X4_runSelect_b6 F T z_38.1 x0 x1 x2 z_38.2
theorem dX4_joinSources_0 : decode cX4_joinSources 0 = .ok (.iconst 0, 1) := by decide +kernel
theorem dX4_joinSources_1 : decode cX4_joinSources 1 = .ok (.istore_n 3, 1) := by decide +kernel
theorem dX4_joinSources_2 : decode cX4_joinSources 2 = .ok (.iconst 0, 1) := by decide +kernel
theorem dX4_joinSources_3 : decode cX4_joinSources 3 = .ok (.istore 4, 2) := by decide +kernel
theorem dX4_joinSources_5 : decode cX4_joinSources 5 = .ok (.iload 4, 2) := by decide +kernel
theorem dX4_joinSources_7 : decode cX4_joinSources 7 = .ok (.aload_n 1, 1) := by decide +kernel
theorem dX4_joinSources_8 : decode cX4_joinSources 8 = .ok (.getfield 171, 3) := by decide +kernel
theorem dX4_joinSources_11 : decode cX4_joinSources 11 = .ok (.if_icmp .ge 75, 3) := by decide +kernel
theorem dX4_joinSources_14 : decode cX4_joinSources 14 = .ok (.iload 4, 2) := by decide +kernel
theorem dX4_joinSources_16 : decode cX4_joinSources 16 = .ok (.aload_n 1, 1) := by decide +kernel
theorem dX4_joinSources_17 : decode cX4_joinSources 17 = .ok (.getfield 174, 3) := by decide +kernel
theorem dX4_joinSources_20 : decode cX4_joinSources 20 = .ok (.arraylength, 1) := by decide +kernel
theorem dX4_joinSources_21 : decode cX4_joinSources 21 = .ok (.if_icmp .ge 65, 3) := by decide +kernel
theorem dX4_joinSources_24 : decode cX4_joinSources 24 = .ok (.aload_n 1, 1) := by decide +kernel
theorem dX4_joinSources_25 : decode cX4_joinSources 25 = .ok (.getfield 174, 3) := by decide +kernel
theorem dX4_joinSources_28 : decode cX4_joinSources 28 = .ok (.iload 4, 2) := by decide +kernel
theorem dX4_joinSources_30 : decode cX4_joinSources 30 = .ok (.aaload, 1) := by decide +kernel
theorem dX4_joinSources_31 : decode cX4_joinSources 31 = .ok (.astore 5, 2) := by decide +kernel
theorem dX4_joinSources_33 : decode cX4_joinSources 33 = .ok (.aload 5, 2) := by decide +kernel
theorem dX4_joinSources_35 : decode cX4_joinSources 35 = .ok (.ifnull 45, 3) := by decide +kernel
theorem dX4_joinSources_38 : decode cX4_joinSources 38 = .ok (.iload_n 2, 1) := by decide +kernel
theorem dX4_joinSources_39 : decode cX4_joinSources 39 = .ok (.iload_n 3, 1) := by decide +kernel
theorem dX4_joinSources_40 : decode cX4_joinSources 40 = .ok (.aload 5, 2) := by decide +kernel
theorem dX4_joinSources_42 : decode cX4_joinSources 42 = .ok (.getfield 178, 3) := by decide +kernel
theorem dX4_joinSources_45 : decode cX4_joinSources 45 = .ok (.imul, 1) := by decide +kernel
theorem dX4_joinSources_46 : decode cX4_joinSources 46 = .ok (.iadd, 1) := by decide +kernel
theorem dX4_joinSources_47 : decode cX4_joinSources 47 = .ok (.istore 6, 2) := by decide +kernel
theorem dX4_joinSources_49 : decode cX4_joinSources 49 = .ok (.aload_n 0, 1) := by decide +kernel
theorem dX4_joinSources_50 : decode cX4_joinSources 50 = .ok (.aload 5, 2) := by decide +kernel
theorem dX4_joinSources_52 : decode cX4_joinSources 52 = .ok (.iload 6, 2) := by decide +kernel
theorem dX4_joinSources_54 : decode cX4_joinSources 54 = .ok (.invokevirtual 183, 3) := by decide +kernel
theorem dX4_joinSources_57 : decode cX4_joinSources 57 = .ok (.istore 7, 2) := by decide +kernel
theorem dX4_joinSources_59 : decode cX4_joinSources 59 = .ok (.iload 4, 2) := by decide +kernel
theorem dX4_joinSources_61 : decode cX4_joinSources 61 = .ok (.ifCond .ne 8, 3) := by decide +kernel
theorem dX4_joinSources_64 : decode cX4_joinSources 64 = .ok (.iload 7, 2) := by decide +kernel
theorem dX4_joinSources_66 : decode cX4_joinSources 66 = .ok (.goto 13, 3) := by decide +kernel
theorem dX4_joinSources_69 : decode cX4_joinSources 69 = .ok (.aload_n 0, 1) := by decide +kernel
theorem dX4_joinSources_70 : decode cX4_joinSources 70 = .ok (.aload 5, 2) := by decide +kernel
theorem dX4_joinSources_72 : decode cX4_joinSources 72 = .ok (.iload_n 2, 1) := by decide +kernel
theorem dX4_joinSources_73 : decode cX4_joinSources 73 = .ok (.iload_n 3, 1) := by decide +kernel
theorem dX4_joinSources_74 : decode cX4_joinSources 74 = .ok (.iload 7, 2) := by decide +kernel
theorem dX4_joinSources_76 : decode cX4_joinSources 76 = .ok (.invokevirtual 187, 3) := by decide +kernel
theorem dX4_joinSources_79 : decode cX4_joinSources 79 = .ok (.istore_n 3, 1) := by decide +kernel
theorem dX4_joinSources_80 : decode cX4_joinSources 80 = .ok (.iinc 4 1, 3) := by decide +kernel
theorem dX4_joinSources_83 : decode cX4_joinSources 83 = .ok (.goto (-78), 3) := by decide +kernel
theorem dX4_joinSources_86 : decode cX4_joinSources 86 = .ok (.iload_n 3, 1) := by decide +kernel
theorem dX4_joinSources_87 : decode cX4_joinSources 87 = .ok (.ireturn, 1) := by decide +kernel
def c_X4_joinSources_b86 (F : Nat) (T : TC_X4_runQuery) (cs1 : CS) (u3 : Int32) : Option (CS × Int32) := some (cs1, u3)
def c_X4_joinSources_b80 (F : Nat) (T : TC_X4_runQuery) (rc5 : CS → Nat → Nat → Int32 → Int32 → Int32 → Option (CS × Int32)) (cs1 : CS) (u0 : Nat) (u1 : Nat) (u2 : Int32) (u3 : Int32) (u4 : Int32) : Option (CS × Int32) := rc5 cs1 u0 u1 u2 u3 (u4 + 1)
def c_X4_joinSources_b79 (F : Nat) (T : TC_X4_runQuery) (rc5 : CS → Nat → Nat → Int32 → Int32 → Int32 → Option (CS × Int32)) (cs1 : CS) (u0 : Nat) (u1 : Nat) (u2 : Int32) (u4 : Int32) (y0 : Int32) : Option (CS × Int32) := c_X4_joinSources_b80 F T rc5 cs1 u0 u1 u2 y0 u4
def c_X4_joinSources_b57 (F : Nat) (T : TC_X4_runQuery) (rc5 : CS → Nat → Nat → Int32 → Int32 → Int32 → Option (CS × Int32)) (cs1 : CS) (u0 : Nat) (u1 : Nat) (u2 : Int32) (u3 : Int32) (u4 : Int32) (u5 : Nat) (y0 : Int32) : Option (CS × Int32) := if u4 = 0 then (c_X4_joinSources_b79 F T rc5 cs1 u0 u1 u2 u4 y0) else (Option.bind (ckE cs1 5 u0) fun _ => Option.bind (c_X4_join F cs1 u0 u5 u2 u3 y0) fun z_2 => c_X4_joinSources_b79 F T rc5 z_2.1 u0 u1 u2 u4 z_2.2)
def c_X4_joinSources_L5 (F : Nat) (T : TC_X4_runQuery) : Nat → CS → Nat → Nat → Int32 → Int32 → Int32 → Option (CS × Int32)
  | 0, _, _, _, _, _, _ => none
  | lf_5 + 1, cs1, u0, u1, u2, u3, u4 => Option.bind (gI cs1 6 196 u1) fun v_4 => if v_4 ≤ u4 then (c_X4_joinSources_b86 F T cs1 u3) else (Option.bind (gA cs1 6 195 u1) fun v_6 => Option.bind (lnA cs1 195 u1 v_6) fun v_7 => if v_7 ≤ u4 then (c_X4_joinSources_b86 F T cs1 u3) else (Option.bind (gA cs1 6 195 u1) fun v_9 => Option.bind (rQ cs1 195 u1 v_9 u4) fun v_10 => oc v_10 (c_X4_joinSources_b80 F T (c_X4_joinSources_L5 F T lf_5) cs1 u0 u1 u2 u3 u4) (fun i_11 => Option.bind (gI cs1 7 234 i_11) fun v_12 => Option.bind (ckE cs1 5 u0) fun _ => Option.bind (T.2.2.2 cs1 u0 i_11 (u2 + (u3 * v_12))) fun z_13 => c_X4_joinSources_b57 F T (c_X4_joinSources_L5 F T lf_5) z_13.1 u0 u1 u2 u3 u4 i_11 z_13.2)))
def cb_X4_joinSources (F : Nat) (T : TC_X4_runQuery) (cs : CS) (x0 : Nat) (x1 : Nat) (x2 : Int32) : Option (CS × Int32) := c_X4_joinSources_L5 F T F cs x0 x1 x2 0 0
theorem dX4_runSource_0 : decode cX4_runSource 0 = .ok (.aload_n 1, 1) := by decide +kernel
theorem dX4_runSource_1 : decode cX4_runSource 1 = .ok (.getfield 191, 3) := by decide +kernel
theorem dX4_runSource_4 : decode cX4_runSource 4 = .ok (.ifnull 13, 3) := by decide +kernel
theorem dX4_runSource_7 : decode cX4_runSource 7 = .ok (.aload_n 0, 1) := by decide +kernel
theorem dX4_runSource_8 : decode cX4_runSource 8 = .ok (.aload_n 1, 1) := by decide +kernel
theorem dX4_runSource_9 : decode cX4_runSource 9 = .ok (.getfield 191, 3) := by decide +kernel
theorem dX4_runSource_12 : decode cX4_runSource 12 = .ok (.iload_n 2, 1) := by decide +kernel
theorem dX4_runSource_13 : decode cX4_runSource 13 = .ok (.invokevirtual 195, 3) := by decide +kernel
theorem dX4_runSource_16 : decode cX4_runSource 16 = .ok (.ireturn, 1) := by decide +kernel
theorem dX4_runSource_17 : decode cX4_runSource 17 = .ok (.iconst 0, 1) := by decide +kernel
theorem dX4_runSource_18 : decode cX4_runSource 18 = .ok (.istore_n 3, 1) := by decide +kernel
theorem dX4_runSource_19 : decode cX4_runSource 19 = .ok (.iconst 0, 1) := by decide +kernel
theorem dX4_runSource_20 : decode cX4_runSource 20 = .ok (.istore 4, 2) := by decide +kernel
theorem dX4_runSource_22 : decode cX4_runSource 22 = .ok (.iload 4, 2) := by decide +kernel
theorem dX4_runSource_24 : decode cX4_runSource 24 = .ok (.bipush 8, 2) := by decide +kernel
theorem dX4_runSource_26 : decode cX4_runSource 26 = .ok (.if_icmp .ge 60, 3) := by decide +kernel
theorem dX4_runSource_29 : decode cX4_runSource 29 = .ok (.aload_n 0, 1) := by decide +kernel
theorem dX4_runSource_30 : decode cX4_runSource 30 = .ok (.getfield 9, 3) := by decide +kernel
theorem dX4_runSource_33 : decode cX4_runSource 33 = .ok (.aload_n 1, 1) := by decide +kernel
theorem dX4_runSource_34 : decode cX4_runSource 34 = .ok (.getfield 199, 3) := by decide +kernel
theorem dX4_runSource_37 : decode cX4_runSource 37 = .ok (.iload 4, 2) := by decide +kernel
theorem dX4_runSource_39 : decode cX4_runSource 39 = .ok (.aload_n 1, 1) := by decide +kernel
theorem dX4_runSource_40 : decode cX4_runSource 40 = .ok (.getfield 202, 3) := by decide +kernel
theorem dX4_runSource_43 : decode cX4_runSource 43 = .ok (.invokevirtual 206, 3) := by decide +kernel
theorem dX4_runSource_46 : decode cX4_runSource 46 = .ok (.ifCond .eq 34, 3) := by decide +kernel
theorem dX4_runSource_49 : decode cX4_runSource 49 = .ok (.aload_n 0, 1) := by decide +kernel
theorem dX4_runSource_50 : decode cX4_runSource 50 = .ok (.getfield 9, 3) := by decide +kernel
theorem dX4_runSource_53 : decode cX4_runSource 53 = .ok (.aload_n 1, 1) := by decide +kernel
theorem dX4_runSource_54 : decode cX4_runSource 54 = .ok (.getfield 199, 3) := by decide +kernel
theorem dX4_runSource_57 : decode cX4_runSource 57 = .ok (.iload 4, 2) := by decide +kernel
theorem dX4_runSource_59 : decode cX4_runSource 59 = .ok (.aload_n 0, 1) := by decide +kernel
theorem dX4_runSource_60 : decode cX4_runSource 60 = .ok (.getfield 19, 3) := by decide +kernel
theorem dX4_runSource_63 : decode cX4_runSource 63 = .ok (.iload_n 2, 1) := by decide +kernel
theorem dX4_runSource_64 : decode cX4_runSource 64 = .ok (.iload_n 3, 1) := by decide +kernel
theorem dX4_runSource_65 : decode cX4_runSource 65 = .ok (.aload_n 1, 1) := by decide +kernel
theorem dX4_runSource_66 : decode cX4_runSource 66 = .ok (.getfield 212, 3) := by decide +kernel
theorem dX4_runSource_69 : decode cX4_runSource 69 = .ok (.getfield 29, 3) := by decide +kernel
theorem dX4_runSource_72 : decode cX4_runSource 72 = .ok (.imul, 1) := by decide +kernel
theorem dX4_runSource_73 : decode cX4_runSource 73 = .ok (.iadd, 1) := by decide +kernel
theorem dX4_runSource_74 : decode cX4_runSource 74 = .ok (.invokevirtual 215, 3) := by decide +kernel
theorem dX4_runSource_77 : decode cX4_runSource 77 = .ok (.iinc 3 1, 3) := by decide +kernel
theorem dX4_runSource_80 : decode cX4_runSource 80 = .ok (.iinc 4 1, 3) := by decide +kernel
theorem dX4_runSource_83 : decode cX4_runSource 83 = .ok (.goto (-61), 3) := by decide +kernel
theorem dX4_runSource_86 : decode cX4_runSource 86 = .ok (.iload_n 3, 1) := by decide +kernel
theorem dX4_runSource_87 : decode cX4_runSource 87 = .ok (.ireturn, 1) := by decide +kernel
def c_X4_runSource_b16 (F : Nat) (T : TC_X4_runQuery) (cs1 : CS) (y0 : Int32) : Option (CS × Int32) := some (cs1, y0)
def c_X4_runSource_b80 (F : Nat) (T : TC_X4_runQuery) (rc22 : CS → Nat → Nat → Int32 → Int32 → Int32 → Option (CS × Int32)) (cs1 : CS) (u0 : Nat) (u1 : Nat) (u2 : Int32) (u3 : Int32) (u4 : Int32) : Option (CS × Int32) := rc22 cs1 u0 u1 u2 u3 (u4 + 1)
def c_X4_runSource_b77 (F : Nat) (T : TC_X4_runQuery) (rc22 : CS → Nat → Nat → Int32 → Int32 → Int32 → Option (CS × Int32)) (cs1 : CS) (u0 : Nat) (u1 : Nat) (u2 : Int32) (u3 : Int32) (u4 : Int32) : Option (CS × Int32) := c_X4_runSource_b80 F T rc22 cs1 u0 u1 u2 (u3 + 1) u4
def c_X4_runSource_L22 (F : Nat) (T : TC_X4_runQuery) : Nat → CS → Nat → Nat → Int32 → Int32 → Int32 → Option (CS × Int32)
  | 0, _, _, _, _, _, _ => none
  | lf_22 + 1, cs1, u0, u1, u2, u3, u4 => if 8 ≤ u4 then (some (cs1, u3)) else (Option.bind (gR cs1 5 160 u0) fun v_2 => Option.bind (gI cs1 7 224 u1) fun v_3 => Option.bind (gJ cs1 7 230 u1) fun v_4 => Option.bind (v_2) fun i_6 => Option.bind (ckE cs1 8 i_6) fun _ => Option.bind (c_X7_shows F cs1 i_6 v_3 u4 v_4) fun v_5 => if v_5 = 0 then (c_X4_runSource_b80 F T (c_X4_runSource_L22 F T lf_22) cs1 u0 u1 u2 u3 u4) else (Option.bind (gR cs1 5 160 u0) fun v_9 => Option.bind (gI cs1 7 224 u1) fun v_10 => Option.bind (gR cs1 5 162 u0) fun v_11 => Option.bind (gR cs1 7 235 u1) fun v_12 => Option.bind (v_12) fun i_13 => Option.bind (gI cs1 3 96 i_13) fun v_14 => Option.bind (v_11) fun i_15 => Option.bind (v_9) fun i_17 => Option.bind (ckE cs1 8 i_17) fun _ => Option.bind (c_X7_copyRow F cs1 i_17 v_10 u4 i_15 (u2 + (u3 * v_14))) fun cs_16 => c_X4_runSource_b77 F T (c_X4_runSource_L22 F T lf_22) cs_16 u0 u1 u2 u3 u4))
def cb_X4_runSource (F : Nat) (T : TC_X4_runQuery) (cs : CS) (x0 : Nat) (x1 : Nat) (x2 : Int32) : Option (CS × Int32) := Option.bind (gR cs 7 225 x1) fun v_19 => oc v_19 (c_X4_runSource_L22 F T F cs x0 x1 x2 0 0) (fun i_20 => Option.bind (gR cs 7 225 x1) fun v_21 => Option.bind (v_21) fun i_22 => Option.bind (ckE cs 5 x0) fun _ => Option.bind (T.1 cs x0 i_22 x2) fun z_23 => c_X4_runSource_b16 F T z_23.1 z_23.2)
theorem cw_X4_X4_runQuery {R : Room} {s : State} {args : Array Value} {y0 : MethodName} {c0 : ByteArray} {n0 : Nat} {r0 : Option FieldType} (hts : ∀ w ∈ wsOf y0 c0 n0 r0, w.before args s = true) {fr mc ms : Nat} (h1 : fr + 1 ≤ R.frames) (h2 : 8 + (9 + 11) + 60 * fr ≤ R.locals) : CallW R s args RX4 RX4 195 yX4_runQuery cX4_runQuery 9 (some .int) (wsOf yX4_runQuery cX4_runQuery 9 (some .int)) ({ frames := fr, cells := mc, slots := ms, locals := 60 * fr } : Room) mc ms 2 := cwV 2 hts (gd_all (in_V kw_1383 kw_1366 kw_68 kw_206 kc_X4_runQuery)) rfl rfl rfl (by decide +kernel) ⟨h1, h2⟩
theorem cw_X11_X4_runQuery {R : Room} {s : State} {args : Array Value} {y0 : MethodName} {c0 : ByteArray} {n0 : Nat} {r0 : Option FieldType} {K V : Nat → Nat} {fz : Value} {A : Nat → Prop} (hZ : zE K V fz A s) (hts : ∀ w ∈ wsOf y0 c0 n0 r0, w.before args s = true) {fr mc ms : Nat} (h1 : fr + 1 ≤ R.frames) (h2 : 8 + (9 + 11) + 60 * fr ≤ R.locals) : va_CN R s args RX11 211 yX4_runQuery "StreamQueries" cX4_runQuery 9 (some .int) (wsOf yX4_runQuery cX4_runQuery 9 (some .int)) ({ frames := fr, cells := mc, slots := ms, locals := 60 * fr } : Room) mc ms 2 ∧ (Cond.instanceMethod yX4_runQuery).before args s = true ∧ (Cond.selects RX4 yX4_runQuery yX4_runQuery).before args s = true := ⟨va_cnB 2 hts (gd_all (in_I kc_X4_runQuery)) rfl rfl rfl hZ.n4 (hts _ (List.mem_cons_of_mem _ kw_206)) (by decide +kernel) ⟨h1, h2⟩, (hts _ (List.mem_cons_of_mem _ kw_1366)), hts _ (List.mem_cons_of_mem _ kw_68)⟩
theorem cw_X4_X4_runSelect {R : Room} {s : State} {args : Array Value} {y0 : MethodName} {c0 : ByteArray} {n0 : Nat} {r0 : Option FieldType} (hts : ∀ w ∈ wsOf y0 c0 n0 r0, w.before args s = true) {fr mc ms : Nat} (h1 : fr + 1 ≤ R.frames) (h2 : 8 + (5 + 11) + 60 * fr ≤ R.locals) : CallW R s args RX4 RX4 50 yX4_runSelect cX4_runSelect 5 (some .int) (wsOf yX4_runSelect cX4_runSelect 5 (some .int)) ({ frames := fr, cells := mc, slots := ms, locals := 60 * fr } : Room) mc ms 2 := cwV 2 hts (gd_all (in_V kw_1371 kw_1373 kw_69 kw_206 kc_X4_runSelect)) rfl rfl rfl (by decide +kernel) ⟨h1, h2⟩
theorem cw_X4_X4_joinSources {R : Room} {s : State} {args : Array Value} {y0 : MethodName} {c0 : ByteArray} {n0 : Nat} {r0 : Option FieldType} (hts : ∀ w ∈ wsOf y0 c0 n0 r0, w.before args s = true) {fr mc ms : Nat} (h1 : fr + 1 ≤ R.frames) (h2 : 8 + (8 + 11) + 60 * fr ≤ R.locals) : CallW R s args RX4 RX4 132 yX4_joinSources cX4_joinSources 8 (some .int) (wsOf yX4_joinSources cX4_joinSources 8 (some .int)) ({ frames := fr, cells := mc, slots := ms, locals := 60 * fr } : Room) mc ms 2 := cwV 2 hts (gd_all (in_V kw_1375 kw_1377 kw_70 kw_206 kc_X4_joinSources)) rfl rfl rfl (by decide +kernel) ⟨h1, h2⟩
theorem cw_X4_X4_runSource {R : Room} {s : State} {args : Array Value} {y0 : MethodName} {c0 : ByteArray} {n0 : Nat} {r0 : Option FieldType} (hts : ∀ w ∈ wsOf y0 c0 n0 r0, w.before args s = true) {fr mc ms : Nat} (h1 : fr + 1 ≤ R.frames) (h2 : 8 + (5 + 11) + 60 * fr ≤ R.locals) : CallW R s args RX4 RX4 183 yX4_runSource cX4_runSource 5 (some .int) (wsOf yX4_runSource cX4_runSource 5 (some .int)) ({ frames := fr, cells := mc, slots := ms, locals := 60 * fr } : Room) mc ms 2 := cwV 2 hts (gd_all (in_V kw_1379 kw_1381 kw_71 kw_206 kc_X4_runSource)) rfl rfl rfl (by decide +kernel) ⟨h1, h2⟩
theorem mo_c_X4_runQuery_b117 (F : Nat) (T : TC_X4_runQuery) (hM_X4_runQuery : ∀ (cs : CS) (x0 : Nat) (x1 : Nat) (x2 : Int32) (cs9 : CS) (r9 : Int32), T.1 cs x0 x1 x2 = some (cs9, r9) → kK cs ≤ kK cs9 ∧ kM cs ≤ kM cs9) (hM_X4_runSelect : ∀ (cs : CS) (x0 : Nat) (x1 : Nat) (x2 : Int32) (cs9 : CS) (r9 : Int32), T.2.1 cs x0 x1 x2 = some (cs9, r9) → kK cs ≤ kK cs9 ∧ kM cs ≤ kM cs9) (hM_X4_joinSources : ∀ (cs : CS) (x0 : Nat) (x1 : Nat) (x2 : Int32) (cs9 : CS) (r9 : Int32), T.2.2.1 cs x0 x1 x2 = some (cs9, r9) → kK cs ≤ kK cs9 ∧ kM cs ≤ kM cs9) (hM_X4_runSource : ∀ (cs : CS) (x0 : Nat) (x1 : Nat) (x2 : Int32) (cs9 : CS) (r9 : Int32), T.2.2.2 cs x0 x1 x2 = some (cs9, r9) → kK cs ≤ kK cs9 ∧ kM cs ≤ kM cs9) (cs1 : CS) (y0 : Int32) (cs9 : CS) (r9 : Int32) (h : c_X4_runQuery_b117 F T cs1 y0 = some (cs9, r9)) : kK cs1 ≤ kK cs9 ∧ kM cs1 ≤ kM cs9 := by
  unfold c_X4_runQuery_b117 at h
  have h9 := (Prod.mk.inj (Option.some.inj h)).1
  have k9 := congrArg kK h9; have m9 := congrArg kM h9; exact ⟨by omega, by omega⟩
theorem mo_c_X4_runQuery_b83 (F : Nat) (T : TC_X4_runQuery) (hM_X4_runQuery : ∀ (cs : CS) (x0 : Nat) (x1 : Nat) (x2 : Int32) (cs9 : CS) (r9 : Int32), T.1 cs x0 x1 x2 = some (cs9, r9) → kK cs ≤ kK cs9 ∧ kM cs ≤ kM cs9) (hM_X4_runSelect : ∀ (cs : CS) (x0 : Nat) (x1 : Nat) (x2 : Int32) (cs9 : CS) (r9 : Int32), T.2.1 cs x0 x1 x2 = some (cs9, r9) → kK cs ≤ kK cs9 ∧ kM cs ≤ kM cs9) (hM_X4_joinSources : ∀ (cs : CS) (x0 : Nat) (x1 : Nat) (x2 : Int32) (cs9 : CS) (r9 : Int32), T.2.2.1 cs x0 x1 x2 = some (cs9, r9) → kK cs ≤ kK cs9 ∧ kM cs ≤ kM cs9) (hM_X4_runSource : ∀ (cs : CS) (x0 : Nat) (x1 : Nat) (x2 : Int32) (cs9 : CS) (r9 : Int32), T.2.2.2 cs x0 x1 x2 = some (cs9, r9) → kK cs ≤ kK cs9 ∧ kM cs ≤ kM cs9) (rc14 : CS → Nat → Nat → Int32 → Int32 → Int32 → Int32 → Option (CS × Int32)) (hrc14 : ∀ (cs1 : CS) (u0 : Nat) (u1 : Nat) (u2 : Int32) (u3 : Int32) (u4 : Int32) (u5 : Int32) (cs9 : CS) (r9 : Int32), rc14 cs1 u0 u1 u2 u3 u4 u5 = some (cs9, r9) → kK cs1 ≤ kK cs9 ∧ kM cs1 ≤ kM cs9) (cs1 : CS) (u0 : Nat) (u1 : Nat) (u2 : Int32) (u4 : Int32) (u5 : Int32) (y0 : Int32) (cs9 : CS) (r9 : Int32) (h : c_X4_runQuery_b83 F T rc14 cs1 u0 u1 u2 u4 u5 y0 = some (cs9, r9)) : kK cs1 ≤ kK cs9 ∧ kM cs1 ≤ kM cs9 := by
  unfold c_X4_runQuery_b83 at h
  obtain ⟨k9, m9⟩ := hrc14 cs1 u0 u1 u2 y0 u4 (u5 + 1) cs9 r9 h
  exact ⟨by omega, by omega⟩
theorem mo_c_X4_runQuery_b56 (F : Nat) (T : TC_X4_runQuery) (hM_X4_runQuery : ∀ (cs : CS) (x0 : Nat) (x1 : Nat) (x2 : Int32) (cs9 : CS) (r9 : Int32), T.1 cs x0 x1 x2 = some (cs9, r9) → kK cs ≤ kK cs9 ∧ kM cs ≤ kM cs9) (hM_X4_runSelect : ∀ (cs : CS) (x0 : Nat) (x1 : Nat) (x2 : Int32) (cs9 : CS) (r9 : Int32), T.2.1 cs x0 x1 x2 = some (cs9, r9) → kK cs ≤ kK cs9 ∧ kM cs ≤ kM cs9) (hM_X4_joinSources : ∀ (cs : CS) (x0 : Nat) (x1 : Nat) (x2 : Int32) (cs9 : CS) (r9 : Int32), T.2.2.1 cs x0 x1 x2 = some (cs9, r9) → kK cs ≤ kK cs9 ∧ kM cs ≤ kM cs9) (hM_X4_runSource : ∀ (cs : CS) (x0 : Nat) (x1 : Nat) (x2 : Int32) (cs9 : CS) (r9 : Int32), T.2.2.2 cs x0 x1 x2 = some (cs9, r9) → kK cs ≤ kK cs9 ∧ kM cs ≤ kM cs9) (rc14 : CS → Nat → Nat → Int32 → Int32 → Int32 → Int32 → Option (CS × Int32)) (hrc14 : ∀ (cs1 : CS) (u0 : Nat) (u1 : Nat) (u2 : Int32) (u3 : Int32) (u4 : Int32) (u5 : Int32) (cs9 : CS) (r9 : Int32), rc14 cs1 u0 u1 u2 u3 u4 u5 = some (cs9, r9) → kK cs1 ≤ kK cs9 ∧ kM cs1 ≤ kM cs9) (cs1 : CS) (u0 : Nat) (u1 : Nat) (u2 : Int32) (u3 : Int32) (u4 : Int32) (u5 : Int32) (u6 : Nat) (y0 : Int32) (cs9 : CS) (r9 : Int32) (h : c_X4_runQuery_b56 F T rc14 cs1 u0 u1 u2 u3 u4 u5 u6 y0 = some (cs9, r9)) : kK cs1 ≤ kK cs9 ∧ kM cs1 ≤ kM cs9 := by
  unfold c_X4_runQuery_b56 at h
  by_cases c_24 : u5 = 0
  · skip
    replace h := (if_pos c_24).symm.trans h
    obtain ⟨k9, m9⟩ := mo_c_X4_runQuery_b83 F T hM_X4_runQuery hM_X4_runSelect hM_X4_joinSources hM_X4_runSource rc14 hrc14 cs1 u0 u1 u2 u4 u5 y0 cs9 r9 h
    exact ⟨by omega, by omega⟩
  · skip
    replace h := (if_neg c_24).symm.trans h
    replace h := ob h; obtain ⟨v_25, hv_25, h⟩ := h
    replace h := ob h; obtain ⟨w_27, hw_27, h⟩ := h
    replace h := ob h; obtain ⟨z_26, hv_26, h⟩ := h
    obtain ⟨qk_26, qm_26⟩ := mo_c_X4_combine F cs1 u0 v_25 u2 u3 y0 u4 z_26.1 z_26.2 hv_26
    obtain ⟨k9, m9⟩ := mo_c_X4_runQuery_b83 F T hM_X4_runQuery hM_X4_runSelect hM_X4_joinSources hM_X4_runSource rc14 hrc14 z_26.1 u0 u1 u2 u4 u5 z_26.2 cs9 r9 h
    exact ⟨by omega, by omega⟩
theorem mo_c_X4_runQuery_L14 (F : Nat) (T : TC_X4_runQuery) (hM_X4_runQuery : ∀ (cs : CS) (x0 : Nat) (x1 : Nat) (x2 : Int32) (cs9 : CS) (r9 : Int32), T.1 cs x0 x1 x2 = some (cs9, r9) → kK cs ≤ kK cs9 ∧ kM cs ≤ kM cs9) (hM_X4_runSelect : ∀ (cs : CS) (x0 : Nat) (x1 : Nat) (x2 : Int32) (cs9 : CS) (r9 : Int32), T.2.1 cs x0 x1 x2 = some (cs9, r9) → kK cs ≤ kK cs9 ∧ kM cs ≤ kM cs9) (hM_X4_joinSources : ∀ (cs : CS) (x0 : Nat) (x1 : Nat) (x2 : Int32) (cs9 : CS) (r9 : Int32), T.2.2.1 cs x0 x1 x2 = some (cs9, r9) → kK cs ≤ kK cs9 ∧ kM cs ≤ kM cs9) (hM_X4_runSource : ∀ (cs : CS) (x0 : Nat) (x1 : Nat) (x2 : Int32) (cs9 : CS) (r9 : Int32), T.2.2.2 cs x0 x1 x2 = some (cs9, r9) → kK cs ≤ kK cs9 ∧ kM cs ≤ kM cs9) : ∀ (lf_14 : Nat) (cs1 : CS) (u0 : Nat) (u1 : Nat) (u2 : Int32) (u3 : Int32) (u4 : Int32) (u5 : Int32) (cs9 : CS) (r9 : Int32), c_X4_runQuery_L14 F T lf_14 cs1 u0 u1 u2 u3 u4 u5 = some (cs9, r9) → kK cs1 ≤ kK cs9 ∧ kM cs1 ≤ kM cs9 := by
  intro lf_14
  induction lf_14 with
  | zero => intro cs1 u0 u1 u2 u3 u4 u5 cs9 r9 h; cases (show (none : Option (CS × Int32)) = _ from h)
  | succ lf_14 ih_14 =>
    intro cs1 u0 u1 u2 u3 u4 u5 cs9 r9 h
    rw [c_X4_runQuery_L14] at h
    replace h := ob h; obtain ⟨v_24, hv_24, h⟩ := h
    replace h := ob h; obtain ⟨i_26, hi_26, h⟩ := h
    subst hi_26
    replace h := ob h; obtain ⟨w_27, hw_27, h⟩ := h
    replace h := ob h; obtain ⟨v_25, hv_25, h⟩ := h
    by_cases c_28 : v_25 ≤ u5
    · skip
      replace h := (if_pos c_28).symm.trans h
      replace h := ob h; obtain ⟨v_29, hv_29, h⟩ := h
      cases v_29 with
      | none =>
        replace h := oc_n.symm.trans h
        obtain ⟨k9, m9⟩ := mo_c_X4_runQuery_b117 F T hM_X4_runQuery hM_X4_runSelect hM_X4_joinSources hM_X4_runSource cs1 u3 cs9 r9 h
        exact ⟨by omega, by omega⟩
      | some i_30 =>
        replace h := oc_s.symm.trans h
        replace h := ob h; obtain ⟨v_31, hv_31, h⟩ := h
        replace h := ob h; obtain ⟨v_32, hv_32, h⟩ := h
        replace h := ob h; obtain ⟨i_33, hi_33, h⟩ := h
        subst hi_33
        replace h := ob h; obtain ⟨w_35, hw_35, h⟩ := h
        replace h := ob h; obtain ⟨z_34, hv_34, h⟩ := h
        obtain ⟨qk_34, qm_34⟩ := mo_c_X4_order F cs1 u0 i_33 v_32 u2 u3 u4 z_34.1 z_34.2 hv_34
        obtain ⟨k9, m9⟩ := mo_c_X4_runQuery_b117 F T hM_X4_runQuery hM_X4_runSelect hM_X4_joinSources hM_X4_runSource z_34.1 z_34.2 cs9 r9 h
        exact ⟨by omega, by omega⟩
    · skip
      replace h := (if_neg c_28).symm.trans h
      replace h := ob h; obtain ⟨v_36, hv_36, h⟩ := h
      replace h := ob h; obtain ⟨i_38, hi_38, h⟩ := h
      subst hi_38
      replace h := ob h; obtain ⟨w_39, hw_39, h⟩ := h
      replace h := ob h; obtain ⟨v_37, hv_37, h⟩ := h
      replace h := ob h; obtain ⟨w_40, hw_40, h⟩ := h
      replace h := ob h; obtain ⟨w_42, hw_42, h⟩ := h
      replace h := ob h; obtain ⟨z_41, hv_41, h⟩ := h
      obtain ⟨qk_41, qm_41⟩ := hM_X4_runSelect cs1 u0 v_37 (u2 + (u3 * u4)) z_41.1 z_41.2 hv_41
      obtain ⟨k9, m9⟩ := mo_c_X4_runQuery_b56 F T hM_X4_runQuery hM_X4_runSelect hM_X4_joinSources hM_X4_runSource (c_X4_runQuery_L14 F T lf_14) ih_14 z_41.1 u0 u1 u2 u3 u4 u5 v_37 z_41.2 cs9 r9 h
      exact ⟨by omega, by omega⟩
theorem mo_cb_X4_runQuery (F : Nat) (T : TC_X4_runQuery) (hM_X4_runQuery : ∀ (cs : CS) (x0 : Nat) (x1 : Nat) (x2 : Int32) (cs9 : CS) (r9 : Int32), T.1 cs x0 x1 x2 = some (cs9, r9) → kK cs ≤ kK cs9 ∧ kM cs ≤ kM cs9) (hM_X4_runSelect : ∀ (cs : CS) (x0 : Nat) (x1 : Nat) (x2 : Int32) (cs9 : CS) (r9 : Int32), T.2.1 cs x0 x1 x2 = some (cs9, r9) → kK cs ≤ kK cs9 ∧ kM cs ≤ kM cs9) (hM_X4_joinSources : ∀ (cs : CS) (x0 : Nat) (x1 : Nat) (x2 : Int32) (cs9 : CS) (r9 : Int32), T.2.2.1 cs x0 x1 x2 = some (cs9, r9) → kK cs ≤ kK cs9 ∧ kM cs ≤ kM cs9) (hM_X4_runSource : ∀ (cs : CS) (x0 : Nat) (x1 : Nat) (x2 : Int32) (cs9 : CS) (r9 : Int32), T.2.2.2 cs x0 x1 x2 = some (cs9, r9) → kK cs ≤ kK cs9 ∧ kM cs ≤ kM cs9) (cs : CS) (x0 : Nat) (x1 : Nat) (x2 : Int32) (cs9 : CS) (r9 : Int32) (h : cb_X4_runQuery F T cs x0 x1 x2 = some (cs9, r9)) : kK cs ≤ kK cs9 ∧ kM cs ≤ kM cs9 := by
  unfold cb_X4_runQuery at h
  replace h := ob h; obtain ⟨v_24, hv_24, h⟩ := h
  replace h := ob h; obtain ⟨i_25, hi_25, h⟩ := h
  subst hi_25
  replace h := ob h; obtain ⟨v_26, hv_26, h⟩ := h
  obtain ⟨k9, m9⟩ := mo_c_X4_runQuery_L14 F T hM_X4_runQuery hM_X4_runSelect hM_X4_joinSources hM_X4_runSource F cs x0 x1 x2 0 v_26 0 cs9 r9 h
  exact ⟨by omega, by omega⟩
theorem mo_c_X4_runSelect_b124 (F : Nat) (T : TC_X4_runQuery) (hM_X4_runQuery : ∀ (cs : CS) (x0 : Nat) (x1 : Nat) (x2 : Int32) (cs9 : CS) (r9 : Int32), T.1 cs x0 x1 x2 = some (cs9, r9) → kK cs ≤ kK cs9 ∧ kM cs ≤ kM cs9) (hM_X4_runSelect : ∀ (cs : CS) (x0 : Nat) (x1 : Nat) (x2 : Int32) (cs9 : CS) (r9 : Int32), T.2.1 cs x0 x1 x2 = some (cs9, r9) → kK cs ≤ kK cs9 ∧ kM cs ≤ kM cs9) (hM_X4_joinSources : ∀ (cs : CS) (x0 : Nat) (x1 : Nat) (x2 : Int32) (cs9 : CS) (r9 : Int32), T.2.2.1 cs x0 x1 x2 = some (cs9, r9) → kK cs ≤ kK cs9 ∧ kM cs ≤ kM cs9) (hM_X4_runSource : ∀ (cs : CS) (x0 : Nat) (x1 : Nat) (x2 : Int32) (cs9 : CS) (r9 : Int32), T.2.2.2 cs x0 x1 x2 = some (cs9, r9) → kK cs ≤ kK cs9 ∧ kM cs ≤ kM cs9) (cs1 : CS) (y0 : Int32) (cs9 : CS) (r9 : Int32) (h : c_X4_runSelect_b124 F T cs1 y0 = some (cs9, r9)) : kK cs1 ≤ kK cs9 ∧ kM cs1 ≤ kM cs9 := by
  unfold c_X4_runSelect_b124 at h
  have h9 := (Prod.mk.inj (Option.some.inj h)).1
  have k9 := congrArg kK h9; have m9 := congrArg kM h9; exact ⟨by omega, by omega⟩
theorem mo_c_X4_runSelect_b108 (F : Nat) (T : TC_X4_runQuery) (hM_X4_runQuery : ∀ (cs : CS) (x0 : Nat) (x1 : Nat) (x2 : Int32) (cs9 : CS) (r9 : Int32), T.1 cs x0 x1 x2 = some (cs9, r9) → kK cs ≤ kK cs9 ∧ kM cs ≤ kM cs9) (hM_X4_runSelect : ∀ (cs : CS) (x0 : Nat) (x1 : Nat) (x2 : Int32) (cs9 : CS) (r9 : Int32), T.2.1 cs x0 x1 x2 = some (cs9, r9) → kK cs ≤ kK cs9 ∧ kM cs ≤ kM cs9) (hM_X4_joinSources : ∀ (cs : CS) (x0 : Nat) (x1 : Nat) (x2 : Int32) (cs9 : CS) (r9 : Int32), T.2.2.1 cs x0 x1 x2 = some (cs9, r9) → kK cs ≤ kK cs9 ∧ kM cs ≤ kM cs9) (hM_X4_runSource : ∀ (cs : CS) (x0 : Nat) (x1 : Nat) (x2 : Int32) (cs9 : CS) (r9 : Int32), T.2.2.2 cs x0 x1 x2 = some (cs9, r9) → kK cs ≤ kK cs9 ∧ kM cs ≤ kM cs9) (cs1 : CS) (u0 : Nat) (u1 : Nat) (u2 : Int32) (u3 : Int32) (cs9 : CS) (r9 : Int32) (h : c_X4_runSelect_b108 F T cs1 u0 u1 u2 u3 = some (cs9, r9)) : kK cs1 ≤ kK cs9 ∧ kM cs1 ≤ kM cs9 := by
  unfold c_X4_runSelect_b108 at h
  replace h := ob h; obtain ⟨v_38, hv_38, h⟩ := h
  replace h := ob h; obtain ⟨v_39, hv_39, h⟩ := h
  replace h := ob h; obtain ⟨i_40, hi_40, h⟩ := h
  subst hi_40
  replace h := ob h; obtain ⟨v_41, hv_41, h⟩ := h
  replace h := ob h; obtain ⟨i_43, hi_43, h⟩ := h
  subst hi_43
  replace h := ob h; obtain ⟨w_44, hw_44, h⟩ := h
  replace h := ob h; obtain ⟨z_42, hv_42, h⟩ := h
  obtain ⟨qk_42, qm_42⟩ := mo_c_X8_once F cs1 i_43 u2 u3 v_41 z_42.1 z_42.2 hv_42
  obtain ⟨k9, m9⟩ := mo_c_X4_runSelect_b124 F T hM_X4_runQuery hM_X4_runSelect hM_X4_joinSources hM_X4_runSource z_42.1 z_42.2 cs9 r9 h
  exact ⟨by omega, by omega⟩
theorem mo_c_X4_runSelect_b82 (F : Nat) (T : TC_X4_runQuery) (hM_X4_runQuery : ∀ (cs : CS) (x0 : Nat) (x1 : Nat) (x2 : Int32) (cs9 : CS) (r9 : Int32), T.1 cs x0 x1 x2 = some (cs9, r9) → kK cs ≤ kK cs9 ∧ kM cs ≤ kM cs9) (hM_X4_runSelect : ∀ (cs : CS) (x0 : Nat) (x1 : Nat) (x2 : Int32) (cs9 : CS) (r9 : Int32), T.2.1 cs x0 x1 x2 = some (cs9, r9) → kK cs ≤ kK cs9 ∧ kM cs ≤ kM cs9) (hM_X4_joinSources : ∀ (cs : CS) (x0 : Nat) (x1 : Nat) (x2 : Int32) (cs9 : CS) (r9 : Int32), T.2.2.1 cs x0 x1 x2 = some (cs9, r9) → kK cs ≤ kK cs9 ∧ kM cs ≤ kM cs9) (hM_X4_runSource : ∀ (cs : CS) (x0 : Nat) (x1 : Nat) (x2 : Int32) (cs9 : CS) (r9 : Int32), T.2.2.2 cs x0 x1 x2 = some (cs9, r9) → kK cs ≤ kK cs9 ∧ kM cs ≤ kM cs9) (cs1 : CS) (u0 : Nat) (u1 : Nat) (u2 : Int32) (u3 : Int32) (cs9 : CS) (r9 : Int32) (h : c_X4_runSelect_b82 F T cs1 u0 u1 u2 u3 = some (cs9, r9)) : kK cs1 ≤ kK cs9 ∧ kM cs1 ≤ kM cs9 := by
  unfold c_X4_runSelect_b82 at h
  replace h := ob h; obtain ⟨v_38, hv_38, h⟩ := h
  by_cases c_39 : v_38 = 0
  · skip
    replace h := (if_pos c_39).symm.trans h
    have h9 := (Prod.mk.inj (Option.some.inj h)).1
    have k9 := congrArg kK h9; have m9 := congrArg kM h9; exact ⟨by omega, by omega⟩
  · skip
    replace h := (if_neg c_39).symm.trans h
    replace h := ob h; obtain ⟨v_40, hv_40, h⟩ := h
    replace h := ob h; obtain ⟨v_41, hv_41, h⟩ := h
    replace h := ob h; obtain ⟨i_42, hi_42, h⟩ := h
    subst hi_42
    replace h := ob h; obtain ⟨v_43, hv_43, h⟩ := h
    replace h := ob h; obtain ⟨i_45, hi_45, h⟩ := h
    subst hi_45
    replace h := ob h; obtain ⟨w_46, hw_46, h⟩ := h
    replace h := ob h; obtain ⟨cs_44, hv_44, h⟩ := h
    obtain ⟨qk_44, qm_44⟩ := mo_c_X8_sort F cs1 i_45 u2 u3 v_43 0 cs_44 hv_44
    obtain ⟨k9, m9⟩ := mo_c_X4_runSelect_b108 F T hM_X4_runQuery hM_X4_runSelect hM_X4_joinSources hM_X4_runSource cs_44 u0 u1 u2 u3 cs9 r9 h
    exact ⟨by omega, by omega⟩
theorem mo_c_X4_runSelect_b69 (F : Nat) (T : TC_X4_runQuery) (hM_X4_runQuery : ∀ (cs : CS) (x0 : Nat) (x1 : Nat) (x2 : Int32) (cs9 : CS) (r9 : Int32), T.1 cs x0 x1 x2 = some (cs9, r9) → kK cs ≤ kK cs9 ∧ kM cs ≤ kM cs9) (hM_X4_runSelect : ∀ (cs : CS) (x0 : Nat) (x1 : Nat) (x2 : Int32) (cs9 : CS) (r9 : Int32), T.2.1 cs x0 x1 x2 = some (cs9, r9) → kK cs ≤ kK cs9 ∧ kM cs ≤ kM cs9) (hM_X4_joinSources : ∀ (cs : CS) (x0 : Nat) (x1 : Nat) (x2 : Int32) (cs9 : CS) (r9 : Int32), T.2.2.1 cs x0 x1 x2 = some (cs9, r9) → kK cs ≤ kK cs9 ∧ kM cs ≤ kM cs9) (hM_X4_runSource : ∀ (cs : CS) (x0 : Nat) (x1 : Nat) (x2 : Int32) (cs9 : CS) (r9 : Int32), T.2.2.2 cs x0 x1 x2 = some (cs9, r9) → kK cs ≤ kK cs9 ∧ kM cs ≤ kM cs9) (cs1 : CS) (u0 : Nat) (u1 : Nat) (u2 : Int32) (u4 : Int32) (y0 : Int32) (cs9 : CS) (r9 : Int32) (h : c_X4_runSelect_b69 F T cs1 u0 u1 u2 u4 y0 = some (cs9, r9)) : kK cs1 ≤ kK cs9 ∧ kM cs1 ≤ kM cs9 := by
  unfold c_X4_runSelect_b69 at h
  replace h := ob h; obtain ⟨v_38, hv_38, h⟩ := h
  replace h := ob h; obtain ⟨i_39, hi_39, h⟩ := h
  subst hi_39
  replace h := ob h; obtain ⟨w_41, hw_41, h⟩ := h
  replace h := ob h; obtain ⟨cs_40, hv_40, h⟩ := h
  obtain ⟨qk_40, qm_40⟩ := mo_c_X4_project F cs1 u0 i_39 u2 y0 u4 cs_40 hv_40
  obtain ⟨k9, m9⟩ := mo_c_X4_runSelect_b82 F T hM_X4_runQuery hM_X4_runSelect hM_X4_joinSources hM_X4_runSource cs_40 u0 u1 u2 y0 cs9 r9 h
  exact ⟨by omega, by omega⟩
theorem mo_c_X4_runSelect_b57 (F : Nat) (T : TC_X4_runQuery) (hM_X4_runQuery : ∀ (cs : CS) (x0 : Nat) (x1 : Nat) (x2 : Int32) (cs9 : CS) (r9 : Int32), T.1 cs x0 x1 x2 = some (cs9, r9) → kK cs ≤ kK cs9 ∧ kM cs ≤ kM cs9) (hM_X4_runSelect : ∀ (cs : CS) (x0 : Nat) (x1 : Nat) (x2 : Int32) (cs9 : CS) (r9 : Int32), T.2.1 cs x0 x1 x2 = some (cs9, r9) → kK cs ≤ kK cs9 ∧ kM cs ≤ kM cs9) (hM_X4_joinSources : ∀ (cs : CS) (x0 : Nat) (x1 : Nat) (x2 : Int32) (cs9 : CS) (r9 : Int32), T.2.2.1 cs x0 x1 x2 = some (cs9, r9) → kK cs ≤ kK cs9 ∧ kM cs ≤ kM cs9) (hM_X4_runSource : ∀ (cs : CS) (x0 : Nat) (x1 : Nat) (x2 : Int32) (cs9 : CS) (r9 : Int32), T.2.2.2 cs x0 x1 x2 = some (cs9, r9) → kK cs ≤ kK cs9 ∧ kM cs ≤ kM cs9) (cs1 : CS) (u0 : Nat) (u1 : Nat) (u2 : Int32) (u3 : Int32) (u4 : Int32) (cs9 : CS) (r9 : Int32) (h : c_X4_runSelect_b57 F T cs1 u0 u1 u2 u3 u4 = some (cs9, r9)) : kK cs1 ≤ kK cs9 ∧ kM cs1 ≤ kM cs9 := by
  unfold c_X4_runSelect_b57 at h
  replace h := ob h; obtain ⟨v_38, hv_38, h⟩ := h
  replace h := ob h; obtain ⟨w_40, hw_40, h⟩ := h
  replace h := ob h; obtain ⟨z_39, hv_39, h⟩ := h
  obtain ⟨qk_39, qm_39⟩ := mo_c_X4_filter F cs1 u0 v_38 u2 u3 u4 z_39.1 z_39.2 hv_39
  obtain ⟨k9, m9⟩ := mo_c_X4_runSelect_b69 F T hM_X4_runQuery hM_X4_runSelect hM_X4_joinSources hM_X4_runSource z_39.1 u0 u1 u2 u4 z_39.2 cs9 r9 h
  exact ⟨by omega, by omega⟩
theorem mo_c_X4_runSelect_b42 (F : Nat) (T : TC_X4_runQuery) (hM_X4_runQuery : ∀ (cs : CS) (x0 : Nat) (x1 : Nat) (x2 : Int32) (cs9 : CS) (r9 : Int32), T.1 cs x0 x1 x2 = some (cs9, r9) → kK cs ≤ kK cs9 ∧ kM cs ≤ kM cs9) (hM_X4_runSelect : ∀ (cs : CS) (x0 : Nat) (x1 : Nat) (x2 : Int32) (cs9 : CS) (r9 : Int32), T.2.1 cs x0 x1 x2 = some (cs9, r9) → kK cs ≤ kK cs9 ∧ kM cs ≤ kM cs9) (hM_X4_joinSources : ∀ (cs : CS) (x0 : Nat) (x1 : Nat) (x2 : Int32) (cs9 : CS) (r9 : Int32), T.2.2.1 cs x0 x1 x2 = some (cs9, r9) → kK cs ≤ kK cs9 ∧ kM cs ≤ kM cs9) (hM_X4_runSource : ∀ (cs : CS) (x0 : Nat) (x1 : Nat) (x2 : Int32) (cs9 : CS) (r9 : Int32), T.2.2.2 cs x0 x1 x2 = some (cs9, r9) → kK cs ≤ kK cs9 ∧ kM cs ≤ kM cs9) (cs1 : CS) (u0 : Nat) (u1 : Nat) (u2 : Int32) (y0 : Int32) (cs9 : CS) (r9 : Int32) (h : c_X4_runSelect_b42 F T cs1 u0 u1 u2 y0 = some (cs9, r9)) : kK cs1 ≤ kK cs9 ∧ kM cs1 ≤ kM cs9 := by
  unfold c_X4_runSelect_b42 at h
  replace h := ob h; obtain ⟨v_38, hv_38, h⟩ := h
  replace h := ob h; obtain ⟨i_39, hi_39, h⟩ := h
  subst hi_39
  replace h := ob h; obtain ⟨v_40, hv_40, h⟩ := h
  replace h := ob h; obtain ⟨v_41, hv_41, h⟩ := h
  obtain ⟨k9, m9⟩ := mo_c_X4_runSelect_b57 F T hM_X4_runQuery hM_X4_runSelect hM_X4_joinSources hM_X4_runSource cs1 u0 u1 u2 y0 (v_40 + v_41) cs9 r9 h
  exact ⟨by omega, by omega⟩
theorem mo_c_X4_runSelect_b25 (F : Nat) (T : TC_X4_runQuery) (hM_X4_runQuery : ∀ (cs : CS) (x0 : Nat) (x1 : Nat) (x2 : Int32) (cs9 : CS) (r9 : Int32), T.1 cs x0 x1 x2 = some (cs9, r9) → kK cs ≤ kK cs9 ∧ kM cs ≤ kM cs9) (hM_X4_runSelect : ∀ (cs : CS) (x0 : Nat) (x1 : Nat) (x2 : Int32) (cs9 : CS) (r9 : Int32), T.2.1 cs x0 x1 x2 = some (cs9, r9) → kK cs ≤ kK cs9 ∧ kM cs ≤ kM cs9) (hM_X4_joinSources : ∀ (cs : CS) (x0 : Nat) (x1 : Nat) (x2 : Int32) (cs9 : CS) (r9 : Int32), T.2.2.1 cs x0 x1 x2 = some (cs9, r9) → kK cs ≤ kK cs9 ∧ kM cs ≤ kM cs9) (hM_X4_runSource : ∀ (cs : CS) (x0 : Nat) (x1 : Nat) (x2 : Int32) (cs9 : CS) (r9 : Int32), T.2.2.2 cs x0 x1 x2 = some (cs9, r9) → kK cs ≤ kK cs9 ∧ kM cs ≤ kM cs9) (cs1 : CS) (u0 : Nat) (u1 : Nat) (u2 : Int32) (u4 : Int32) (y0 : Int32) (cs9 : CS) (r9 : Int32) (h : c_X4_runSelect_b25 F T cs1 u0 u1 u2 u4 y0 = some (cs9, r9)) : kK cs1 ≤ kK cs9 ∧ kM cs1 ≤ kM cs9 := by
  unfold c_X4_runSelect_b25 at h
  replace h := ob h; obtain ⟨w_39, hw_39, h⟩ := h
  replace h := ob h; obtain ⟨v_38, hv_38, h⟩ := h
  by_cases c_40 : v_38 = 0
  · skip
    replace h := (if_pos c_40).symm.trans h
    obtain ⟨k9, m9⟩ := mo_c_X4_runSelect_b57 F T hM_X4_runQuery hM_X4_runSelect hM_X4_joinSources hM_X4_runSource cs1 u0 u1 u2 y0 u4 cs9 r9 h
    exact ⟨by omega, by omega⟩
  · skip
    replace h := (if_neg c_40).symm.trans h
    replace h := ob h; obtain ⟨w_42, hw_42, h⟩ := h
    replace h := ob h; obtain ⟨z_41, hv_41, h⟩ := h
    obtain ⟨qk_41, qm_41⟩ := mo_c_X4_group F cs1 u0 u1 u2 y0 u4 z_41.1 z_41.2 hv_41
    obtain ⟨k9, m9⟩ := mo_c_X4_runSelect_b42 F T hM_X4_runQuery hM_X4_runSelect hM_X4_joinSources hM_X4_runSource z_41.1 u0 u1 u2 z_41.2 cs9 r9 h
    exact ⟨by omega, by omega⟩
theorem mo_c_X4_runSelect_b6 (F : Nat) (T : TC_X4_runQuery) (hM_X4_runQuery : ∀ (cs : CS) (x0 : Nat) (x1 : Nat) (x2 : Int32) (cs9 : CS) (r9 : Int32), T.1 cs x0 x1 x2 = some (cs9, r9) → kK cs ≤ kK cs9 ∧ kM cs ≤ kM cs9) (hM_X4_runSelect : ∀ (cs : CS) (x0 : Nat) (x1 : Nat) (x2 : Int32) (cs9 : CS) (r9 : Int32), T.2.1 cs x0 x1 x2 = some (cs9, r9) → kK cs ≤ kK cs9 ∧ kM cs ≤ kM cs9) (hM_X4_joinSources : ∀ (cs : CS) (x0 : Nat) (x1 : Nat) (x2 : Int32) (cs9 : CS) (r9 : Int32), T.2.2.1 cs x0 x1 x2 = some (cs9, r9) → kK cs ≤ kK cs9 ∧ kM cs ≤ kM cs9) (hM_X4_runSource : ∀ (cs : CS) (x0 : Nat) (x1 : Nat) (x2 : Int32) (cs9 : CS) (r9 : Int32), T.2.2.2 cs x0 x1 x2 = some (cs9, r9) → kK cs ≤ kK cs9 ∧ kM cs ≤ kM cs9) (cs1 : CS) (u0 : Nat) (u1 : Nat) (u2 : Int32) (y0 : Int32) (cs9 : CS) (r9 : Int32) (h : c_X4_runSelect_b6 F T cs1 u0 u1 u2 y0 = some (cs9, r9)) : kK cs1 ≤ kK cs9 ∧ kM cs1 ≤ kM cs9 := by
  unfold c_X4_runSelect_b6 at h
  replace h := ob h; obtain ⟨w_39, hw_39, h⟩ := h
  replace h := ob h; obtain ⟨v_38, hv_38, h⟩ := h
  replace h := ob h; obtain ⟨v_40, hv_40, h⟩ := h
  replace h := ob h; obtain ⟨w_42, hw_42, h⟩ := h
  replace h := ob h; obtain ⟨z_41, hv_41, h⟩ := h
  obtain ⟨qk_41, qm_41⟩ := mo_c_X4_filter F cs1 u0 v_40 u2 y0 v_38 z_41.1 z_41.2 hv_41
  obtain ⟨k9, m9⟩ := mo_c_X4_runSelect_b25 F T hM_X4_runQuery hM_X4_runSelect hM_X4_joinSources hM_X4_runSource z_41.1 u0 u1 u2 v_38 z_41.2 cs9 r9 h
  exact ⟨by omega, by omega⟩
theorem mo_cb_X4_runSelect (F : Nat) (T : TC_X4_runQuery) (hM_X4_runQuery : ∀ (cs : CS) (x0 : Nat) (x1 : Nat) (x2 : Int32) (cs9 : CS) (r9 : Int32), T.1 cs x0 x1 x2 = some (cs9, r9) → kK cs ≤ kK cs9 ∧ kM cs ≤ kM cs9) (hM_X4_runSelect : ∀ (cs : CS) (x0 : Nat) (x1 : Nat) (x2 : Int32) (cs9 : CS) (r9 : Int32), T.2.1 cs x0 x1 x2 = some (cs9, r9) → kK cs ≤ kK cs9 ∧ kM cs ≤ kM cs9) (hM_X4_joinSources : ∀ (cs : CS) (x0 : Nat) (x1 : Nat) (x2 : Int32) (cs9 : CS) (r9 : Int32), T.2.2.1 cs x0 x1 x2 = some (cs9, r9) → kK cs ≤ kK cs9 ∧ kM cs ≤ kM cs9) (hM_X4_runSource : ∀ (cs : CS) (x0 : Nat) (x1 : Nat) (x2 : Int32) (cs9 : CS) (r9 : Int32), T.2.2.2 cs x0 x1 x2 = some (cs9, r9) → kK cs ≤ kK cs9 ∧ kM cs ≤ kM cs9) (cs : CS) (x0 : Nat) (x1 : Nat) (x2 : Int32) (cs9 : CS) (r9 : Int32) (h : cb_X4_runSelect F T cs x0 x1 x2 = some (cs9, r9)) : kK cs ≤ kK cs9 ∧ kM cs ≤ kM cs9 := by
  unfold cb_X4_runSelect at h
  replace h := ob h; obtain ⟨w_39, hw_39, h⟩ := h
  replace h := ob h; obtain ⟨z_38, hv_38, h⟩ := h
  obtain ⟨qk_38, qm_38⟩ := hM_X4_joinSources cs x0 x1 x2 z_38.1 z_38.2 hv_38
  obtain ⟨k9, m9⟩ := mo_c_X4_runSelect_b6 F T hM_X4_runQuery hM_X4_runSelect hM_X4_joinSources hM_X4_runSource z_38.1 x0 x1 x2 z_38.2 cs9 r9 h
  exact ⟨by omega, by omega⟩
theorem mo_c_X4_joinSources_b86 (F : Nat) (T : TC_X4_runQuery) (hM_X4_runQuery : ∀ (cs : CS) (x0 : Nat) (x1 : Nat) (x2 : Int32) (cs9 : CS) (r9 : Int32), T.1 cs x0 x1 x2 = some (cs9, r9) → kK cs ≤ kK cs9 ∧ kM cs ≤ kM cs9) (hM_X4_runSelect : ∀ (cs : CS) (x0 : Nat) (x1 : Nat) (x2 : Int32) (cs9 : CS) (r9 : Int32), T.2.1 cs x0 x1 x2 = some (cs9, r9) → kK cs ≤ kK cs9 ∧ kM cs ≤ kM cs9) (hM_X4_joinSources : ∀ (cs : CS) (x0 : Nat) (x1 : Nat) (x2 : Int32) (cs9 : CS) (r9 : Int32), T.2.2.1 cs x0 x1 x2 = some (cs9, r9) → kK cs ≤ kK cs9 ∧ kM cs ≤ kM cs9) (hM_X4_runSource : ∀ (cs : CS) (x0 : Nat) (x1 : Nat) (x2 : Int32) (cs9 : CS) (r9 : Int32), T.2.2.2 cs x0 x1 x2 = some (cs9, r9) → kK cs ≤ kK cs9 ∧ kM cs ≤ kM cs9) (cs1 : CS) (u3 : Int32) (cs9 : CS) (r9 : Int32) (h : c_X4_joinSources_b86 F T cs1 u3 = some (cs9, r9)) : kK cs1 ≤ kK cs9 ∧ kM cs1 ≤ kM cs9 := by
  unfold c_X4_joinSources_b86 at h
  have h9 := (Prod.mk.inj (Option.some.inj h)).1
  have k9 := congrArg kK h9; have m9 := congrArg kM h9; exact ⟨by omega, by omega⟩
theorem mo_c_X4_joinSources_b80 (F : Nat) (T : TC_X4_runQuery) (hM_X4_runQuery : ∀ (cs : CS) (x0 : Nat) (x1 : Nat) (x2 : Int32) (cs9 : CS) (r9 : Int32), T.1 cs x0 x1 x2 = some (cs9, r9) → kK cs ≤ kK cs9 ∧ kM cs ≤ kM cs9) (hM_X4_runSelect : ∀ (cs : CS) (x0 : Nat) (x1 : Nat) (x2 : Int32) (cs9 : CS) (r9 : Int32), T.2.1 cs x0 x1 x2 = some (cs9, r9) → kK cs ≤ kK cs9 ∧ kM cs ≤ kM cs9) (hM_X4_joinSources : ∀ (cs : CS) (x0 : Nat) (x1 : Nat) (x2 : Int32) (cs9 : CS) (r9 : Int32), T.2.2.1 cs x0 x1 x2 = some (cs9, r9) → kK cs ≤ kK cs9 ∧ kM cs ≤ kM cs9) (hM_X4_runSource : ∀ (cs : CS) (x0 : Nat) (x1 : Nat) (x2 : Int32) (cs9 : CS) (r9 : Int32), T.2.2.2 cs x0 x1 x2 = some (cs9, r9) → kK cs ≤ kK cs9 ∧ kM cs ≤ kM cs9) (rc5 : CS → Nat → Nat → Int32 → Int32 → Int32 → Option (CS × Int32)) (hrc5 : ∀ (cs1 : CS) (u0 : Nat) (u1 : Nat) (u2 : Int32) (u3 : Int32) (u4 : Int32) (cs9 : CS) (r9 : Int32), rc5 cs1 u0 u1 u2 u3 u4 = some (cs9, r9) → kK cs1 ≤ kK cs9 ∧ kM cs1 ≤ kM cs9) (cs1 : CS) (u0 : Nat) (u1 : Nat) (u2 : Int32) (u3 : Int32) (u4 : Int32) (cs9 : CS) (r9 : Int32) (h : c_X4_joinSources_b80 F T rc5 cs1 u0 u1 u2 u3 u4 = some (cs9, r9)) : kK cs1 ≤ kK cs9 ∧ kM cs1 ≤ kM cs9 := by
  unfold c_X4_joinSources_b80 at h
  obtain ⟨k9, m9⟩ := hrc5 cs1 u0 u1 u2 u3 (u4 + 1) cs9 r9 h
  exact ⟨by omega, by omega⟩
theorem mo_c_X4_joinSources_b79 (F : Nat) (T : TC_X4_runQuery) (hM_X4_runQuery : ∀ (cs : CS) (x0 : Nat) (x1 : Nat) (x2 : Int32) (cs9 : CS) (r9 : Int32), T.1 cs x0 x1 x2 = some (cs9, r9) → kK cs ≤ kK cs9 ∧ kM cs ≤ kM cs9) (hM_X4_runSelect : ∀ (cs : CS) (x0 : Nat) (x1 : Nat) (x2 : Int32) (cs9 : CS) (r9 : Int32), T.2.1 cs x0 x1 x2 = some (cs9, r9) → kK cs ≤ kK cs9 ∧ kM cs ≤ kM cs9) (hM_X4_joinSources : ∀ (cs : CS) (x0 : Nat) (x1 : Nat) (x2 : Int32) (cs9 : CS) (r9 : Int32), T.2.2.1 cs x0 x1 x2 = some (cs9, r9) → kK cs ≤ kK cs9 ∧ kM cs ≤ kM cs9) (hM_X4_runSource : ∀ (cs : CS) (x0 : Nat) (x1 : Nat) (x2 : Int32) (cs9 : CS) (r9 : Int32), T.2.2.2 cs x0 x1 x2 = some (cs9, r9) → kK cs ≤ kK cs9 ∧ kM cs ≤ kM cs9) (rc5 : CS → Nat → Nat → Int32 → Int32 → Int32 → Option (CS × Int32)) (hrc5 : ∀ (cs1 : CS) (u0 : Nat) (u1 : Nat) (u2 : Int32) (u3 : Int32) (u4 : Int32) (cs9 : CS) (r9 : Int32), rc5 cs1 u0 u1 u2 u3 u4 = some (cs9, r9) → kK cs1 ≤ kK cs9 ∧ kM cs1 ≤ kM cs9) (cs1 : CS) (u0 : Nat) (u1 : Nat) (u2 : Int32) (u4 : Int32) (y0 : Int32) (cs9 : CS) (r9 : Int32) (h : c_X4_joinSources_b79 F T rc5 cs1 u0 u1 u2 u4 y0 = some (cs9, r9)) : kK cs1 ≤ kK cs9 ∧ kM cs1 ≤ kM cs9 := by
  unfold c_X4_joinSources_b79 at h
  obtain ⟨k9, m9⟩ := mo_c_X4_joinSources_b80 F T hM_X4_runQuery hM_X4_runSelect hM_X4_joinSources hM_X4_runSource rc5 hrc5 cs1 u0 u1 u2 y0 u4 cs9 r9 h
  exact ⟨by omega, by omega⟩
theorem mo_c_X4_joinSources_b57 (F : Nat) (T : TC_X4_runQuery) (hM_X4_runQuery : ∀ (cs : CS) (x0 : Nat) (x1 : Nat) (x2 : Int32) (cs9 : CS) (r9 : Int32), T.1 cs x0 x1 x2 = some (cs9, r9) → kK cs ≤ kK cs9 ∧ kM cs ≤ kM cs9) (hM_X4_runSelect : ∀ (cs : CS) (x0 : Nat) (x1 : Nat) (x2 : Int32) (cs9 : CS) (r9 : Int32), T.2.1 cs x0 x1 x2 = some (cs9, r9) → kK cs ≤ kK cs9 ∧ kM cs ≤ kM cs9) (hM_X4_joinSources : ∀ (cs : CS) (x0 : Nat) (x1 : Nat) (x2 : Int32) (cs9 : CS) (r9 : Int32), T.2.2.1 cs x0 x1 x2 = some (cs9, r9) → kK cs ≤ kK cs9 ∧ kM cs ≤ kM cs9) (hM_X4_runSource : ∀ (cs : CS) (x0 : Nat) (x1 : Nat) (x2 : Int32) (cs9 : CS) (r9 : Int32), T.2.2.2 cs x0 x1 x2 = some (cs9, r9) → kK cs ≤ kK cs9 ∧ kM cs ≤ kM cs9) (rc5 : CS → Nat → Nat → Int32 → Int32 → Int32 → Option (CS × Int32)) (hrc5 : ∀ (cs1 : CS) (u0 : Nat) (u1 : Nat) (u2 : Int32) (u3 : Int32) (u4 : Int32) (cs9 : CS) (r9 : Int32), rc5 cs1 u0 u1 u2 u3 u4 = some (cs9, r9) → kK cs1 ≤ kK cs9 ∧ kM cs1 ≤ kM cs9) (cs1 : CS) (u0 : Nat) (u1 : Nat) (u2 : Int32) (u3 : Int32) (u4 : Int32) (u5 : Nat) (y0 : Int32) (cs9 : CS) (r9 : Int32) (h : c_X4_joinSources_b57 F T rc5 cs1 u0 u1 u2 u3 u4 u5 y0 = some (cs9, r9)) : kK cs1 ≤ kK cs9 ∧ kM cs1 ≤ kM cs9 := by
  unfold c_X4_joinSources_b57 at h
  by_cases c_15 : u4 = 0
  · skip
    replace h := (if_pos c_15).symm.trans h
    obtain ⟨k9, m9⟩ := mo_c_X4_joinSources_b79 F T hM_X4_runQuery hM_X4_runSelect hM_X4_joinSources hM_X4_runSource rc5 hrc5 cs1 u0 u1 u2 u4 y0 cs9 r9 h
    exact ⟨by omega, by omega⟩
  · skip
    replace h := (if_neg c_15).symm.trans h
    replace h := ob h; obtain ⟨w_17, hw_17, h⟩ := h
    replace h := ob h; obtain ⟨z_16, hv_16, h⟩ := h
    obtain ⟨qk_16, qm_16⟩ := mo_c_X4_join F cs1 u0 u5 u2 u3 y0 z_16.1 z_16.2 hv_16
    obtain ⟨k9, m9⟩ := mo_c_X4_joinSources_b79 F T hM_X4_runQuery hM_X4_runSelect hM_X4_joinSources hM_X4_runSource rc5 hrc5 z_16.1 u0 u1 u2 u4 z_16.2 cs9 r9 h
    exact ⟨by omega, by omega⟩
theorem mo_c_X4_joinSources_L5 (F : Nat) (T : TC_X4_runQuery) (hM_X4_runQuery : ∀ (cs : CS) (x0 : Nat) (x1 : Nat) (x2 : Int32) (cs9 : CS) (r9 : Int32), T.1 cs x0 x1 x2 = some (cs9, r9) → kK cs ≤ kK cs9 ∧ kM cs ≤ kM cs9) (hM_X4_runSelect : ∀ (cs : CS) (x0 : Nat) (x1 : Nat) (x2 : Int32) (cs9 : CS) (r9 : Int32), T.2.1 cs x0 x1 x2 = some (cs9, r9) → kK cs ≤ kK cs9 ∧ kM cs ≤ kM cs9) (hM_X4_joinSources : ∀ (cs : CS) (x0 : Nat) (x1 : Nat) (x2 : Int32) (cs9 : CS) (r9 : Int32), T.2.2.1 cs x0 x1 x2 = some (cs9, r9) → kK cs ≤ kK cs9 ∧ kM cs ≤ kM cs9) (hM_X4_runSource : ∀ (cs : CS) (x0 : Nat) (x1 : Nat) (x2 : Int32) (cs9 : CS) (r9 : Int32), T.2.2.2 cs x0 x1 x2 = some (cs9, r9) → kK cs ≤ kK cs9 ∧ kM cs ≤ kM cs9) : ∀ (lf_5 : Nat) (cs1 : CS) (u0 : Nat) (u1 : Nat) (u2 : Int32) (u3 : Int32) (u4 : Int32) (cs9 : CS) (r9 : Int32), c_X4_joinSources_L5 F T lf_5 cs1 u0 u1 u2 u3 u4 = some (cs9, r9) → kK cs1 ≤ kK cs9 ∧ kM cs1 ≤ kM cs9 := by
  intro lf_5
  induction lf_5 with
  | zero => intro cs1 u0 u1 u2 u3 u4 cs9 r9 h; cases (show (none : Option (CS × Int32)) = _ from h)
  | succ lf_5 ih_5 =>
    intro cs1 u0 u1 u2 u3 u4 cs9 r9 h
    rw [c_X4_joinSources_L5] at h
    replace h := ob h; obtain ⟨v_15, hv_15, h⟩ := h
    by_cases c_16 : v_15 ≤ u4
    · skip
      replace h := (if_pos c_16).symm.trans h
      obtain ⟨k9, m9⟩ := mo_c_X4_joinSources_b86 F T hM_X4_runQuery hM_X4_runSelect hM_X4_joinSources hM_X4_runSource cs1 u3 cs9 r9 h
      exact ⟨by omega, by omega⟩
    · skip
      replace h := (if_neg c_16).symm.trans h
      replace h := ob h; obtain ⟨v_17, hv_17, h⟩ := h
      replace h := ob h; obtain ⟨v_18, hv_18, h⟩ := h
      by_cases c_19 : v_18 ≤ u4
      · skip
        replace h := (if_pos c_19).symm.trans h
        obtain ⟨k9, m9⟩ := mo_c_X4_joinSources_b86 F T hM_X4_runQuery hM_X4_runSelect hM_X4_joinSources hM_X4_runSource cs1 u3 cs9 r9 h
        exact ⟨by omega, by omega⟩
      · skip
        replace h := (if_neg c_19).symm.trans h
        replace h := ob h; obtain ⟨v_20, hv_20, h⟩ := h
        replace h := ob h; obtain ⟨v_21, hv_21, h⟩ := h
        cases v_21 with
        | none =>
          replace h := oc_n.symm.trans h
          obtain ⟨k9, m9⟩ := mo_c_X4_joinSources_b80 F T hM_X4_runQuery hM_X4_runSelect hM_X4_joinSources hM_X4_runSource (c_X4_joinSources_L5 F T lf_5) ih_5 cs1 u0 u1 u2 u3 u4 cs9 r9 h
          exact ⟨by omega, by omega⟩
        | some i_22 =>
          replace h := oc_s.symm.trans h
          replace h := ob h; obtain ⟨v_23, hv_23, h⟩ := h
          replace h := ob h; obtain ⟨w_25, hw_25, h⟩ := h
          replace h := ob h; obtain ⟨z_24, hv_24, h⟩ := h
          obtain ⟨qk_24, qm_24⟩ := hM_X4_runSource cs1 u0 i_22 (u2 + (u3 * v_23)) z_24.1 z_24.2 hv_24
          obtain ⟨k9, m9⟩ := mo_c_X4_joinSources_b57 F T hM_X4_runQuery hM_X4_runSelect hM_X4_joinSources hM_X4_runSource (c_X4_joinSources_L5 F T lf_5) ih_5 z_24.1 u0 u1 u2 u3 u4 i_22 z_24.2 cs9 r9 h
          exact ⟨by omega, by omega⟩
theorem mo_cb_X4_joinSources (F : Nat) (T : TC_X4_runQuery) (hM_X4_runQuery : ∀ (cs : CS) (x0 : Nat) (x1 : Nat) (x2 : Int32) (cs9 : CS) (r9 : Int32), T.1 cs x0 x1 x2 = some (cs9, r9) → kK cs ≤ kK cs9 ∧ kM cs ≤ kM cs9) (hM_X4_runSelect : ∀ (cs : CS) (x0 : Nat) (x1 : Nat) (x2 : Int32) (cs9 : CS) (r9 : Int32), T.2.1 cs x0 x1 x2 = some (cs9, r9) → kK cs ≤ kK cs9 ∧ kM cs ≤ kM cs9) (hM_X4_joinSources : ∀ (cs : CS) (x0 : Nat) (x1 : Nat) (x2 : Int32) (cs9 : CS) (r9 : Int32), T.2.2.1 cs x0 x1 x2 = some (cs9, r9) → kK cs ≤ kK cs9 ∧ kM cs ≤ kM cs9) (hM_X4_runSource : ∀ (cs : CS) (x0 : Nat) (x1 : Nat) (x2 : Int32) (cs9 : CS) (r9 : Int32), T.2.2.2 cs x0 x1 x2 = some (cs9, r9) → kK cs ≤ kK cs9 ∧ kM cs ≤ kM cs9) (cs : CS) (x0 : Nat) (x1 : Nat) (x2 : Int32) (cs9 : CS) (r9 : Int32) (h : cb_X4_joinSources F T cs x0 x1 x2 = some (cs9, r9)) : kK cs ≤ kK cs9 ∧ kM cs ≤ kM cs9 := by
  unfold cb_X4_joinSources at h
  obtain ⟨k9, m9⟩ := mo_c_X4_joinSources_L5 F T hM_X4_runQuery hM_X4_runSelect hM_X4_joinSources hM_X4_runSource F cs x0 x1 x2 0 0 cs9 r9 h
  exact ⟨by omega, by omega⟩
theorem mo_c_X4_runSource_b16 (F : Nat) (T : TC_X4_runQuery) (hM_X4_runQuery : ∀ (cs : CS) (x0 : Nat) (x1 : Nat) (x2 : Int32) (cs9 : CS) (r9 : Int32), T.1 cs x0 x1 x2 = some (cs9, r9) → kK cs ≤ kK cs9 ∧ kM cs ≤ kM cs9) (hM_X4_runSelect : ∀ (cs : CS) (x0 : Nat) (x1 : Nat) (x2 : Int32) (cs9 : CS) (r9 : Int32), T.2.1 cs x0 x1 x2 = some (cs9, r9) → kK cs ≤ kK cs9 ∧ kM cs ≤ kM cs9) (hM_X4_joinSources : ∀ (cs : CS) (x0 : Nat) (x1 : Nat) (x2 : Int32) (cs9 : CS) (r9 : Int32), T.2.2.1 cs x0 x1 x2 = some (cs9, r9) → kK cs ≤ kK cs9 ∧ kM cs ≤ kM cs9) (hM_X4_runSource : ∀ (cs : CS) (x0 : Nat) (x1 : Nat) (x2 : Int32) (cs9 : CS) (r9 : Int32), T.2.2.2 cs x0 x1 x2 = some (cs9, r9) → kK cs ≤ kK cs9 ∧ kM cs ≤ kM cs9) (cs1 : CS) (y0 : Int32) (cs9 : CS) (r9 : Int32) (h : c_X4_runSource_b16 F T cs1 y0 = some (cs9, r9)) : kK cs1 ≤ kK cs9 ∧ kM cs1 ≤ kM cs9 := by
  unfold c_X4_runSource_b16 at h
  have h9 := (Prod.mk.inj (Option.some.inj h)).1
  have k9 := congrArg kK h9; have m9 := congrArg kM h9; exact ⟨by omega, by omega⟩
theorem mo_c_X4_runSource_b80 (F : Nat) (T : TC_X4_runQuery) (hM_X4_runQuery : ∀ (cs : CS) (x0 : Nat) (x1 : Nat) (x2 : Int32) (cs9 : CS) (r9 : Int32), T.1 cs x0 x1 x2 = some (cs9, r9) → kK cs ≤ kK cs9 ∧ kM cs ≤ kM cs9) (hM_X4_runSelect : ∀ (cs : CS) (x0 : Nat) (x1 : Nat) (x2 : Int32) (cs9 : CS) (r9 : Int32), T.2.1 cs x0 x1 x2 = some (cs9, r9) → kK cs ≤ kK cs9 ∧ kM cs ≤ kM cs9) (hM_X4_joinSources : ∀ (cs : CS) (x0 : Nat) (x1 : Nat) (x2 : Int32) (cs9 : CS) (r9 : Int32), T.2.2.1 cs x0 x1 x2 = some (cs9, r9) → kK cs ≤ kK cs9 ∧ kM cs ≤ kM cs9) (hM_X4_runSource : ∀ (cs : CS) (x0 : Nat) (x1 : Nat) (x2 : Int32) (cs9 : CS) (r9 : Int32), T.2.2.2 cs x0 x1 x2 = some (cs9, r9) → kK cs ≤ kK cs9 ∧ kM cs ≤ kM cs9) (rc22 : CS → Nat → Nat → Int32 → Int32 → Int32 → Option (CS × Int32)) (hrc22 : ∀ (cs1 : CS) (u0 : Nat) (u1 : Nat) (u2 : Int32) (u3 : Int32) (u4 : Int32) (cs9 : CS) (r9 : Int32), rc22 cs1 u0 u1 u2 u3 u4 = some (cs9, r9) → kK cs1 ≤ kK cs9 ∧ kM cs1 ≤ kM cs9) (cs1 : CS) (u0 : Nat) (u1 : Nat) (u2 : Int32) (u3 : Int32) (u4 : Int32) (cs9 : CS) (r9 : Int32) (h : c_X4_runSource_b80 F T rc22 cs1 u0 u1 u2 u3 u4 = some (cs9, r9)) : kK cs1 ≤ kK cs9 ∧ kM cs1 ≤ kM cs9 := by
  unfold c_X4_runSource_b80 at h
  obtain ⟨k9, m9⟩ := hrc22 cs1 u0 u1 u2 u3 (u4 + 1) cs9 r9 h
  exact ⟨by omega, by omega⟩
theorem mo_c_X4_runSource_b77 (F : Nat) (T : TC_X4_runQuery) (hM_X4_runQuery : ∀ (cs : CS) (x0 : Nat) (x1 : Nat) (x2 : Int32) (cs9 : CS) (r9 : Int32), T.1 cs x0 x1 x2 = some (cs9, r9) → kK cs ≤ kK cs9 ∧ kM cs ≤ kM cs9) (hM_X4_runSelect : ∀ (cs : CS) (x0 : Nat) (x1 : Nat) (x2 : Int32) (cs9 : CS) (r9 : Int32), T.2.1 cs x0 x1 x2 = some (cs9, r9) → kK cs ≤ kK cs9 ∧ kM cs ≤ kM cs9) (hM_X4_joinSources : ∀ (cs : CS) (x0 : Nat) (x1 : Nat) (x2 : Int32) (cs9 : CS) (r9 : Int32), T.2.2.1 cs x0 x1 x2 = some (cs9, r9) → kK cs ≤ kK cs9 ∧ kM cs ≤ kM cs9) (hM_X4_runSource : ∀ (cs : CS) (x0 : Nat) (x1 : Nat) (x2 : Int32) (cs9 : CS) (r9 : Int32), T.2.2.2 cs x0 x1 x2 = some (cs9, r9) → kK cs ≤ kK cs9 ∧ kM cs ≤ kM cs9) (rc22 : CS → Nat → Nat → Int32 → Int32 → Int32 → Option (CS × Int32)) (hrc22 : ∀ (cs1 : CS) (u0 : Nat) (u1 : Nat) (u2 : Int32) (u3 : Int32) (u4 : Int32) (cs9 : CS) (r9 : Int32), rc22 cs1 u0 u1 u2 u3 u4 = some (cs9, r9) → kK cs1 ≤ kK cs9 ∧ kM cs1 ≤ kM cs9) (cs1 : CS) (u0 : Nat) (u1 : Nat) (u2 : Int32) (u3 : Int32) (u4 : Int32) (cs9 : CS) (r9 : Int32) (h : c_X4_runSource_b77 F T rc22 cs1 u0 u1 u2 u3 u4 = some (cs9, r9)) : kK cs1 ≤ kK cs9 ∧ kM cs1 ≤ kM cs9 := by
  unfold c_X4_runSource_b77 at h
  obtain ⟨k9, m9⟩ := mo_c_X4_runSource_b80 F T hM_X4_runQuery hM_X4_runSelect hM_X4_joinSources hM_X4_runSource rc22 hrc22 cs1 u0 u1 u2 (u3 + 1) u4 cs9 r9 h
  exact ⟨by omega, by omega⟩
theorem mo_c_X4_runSource_L22 (F : Nat) (T : TC_X4_runQuery) (hM_X4_runQuery : ∀ (cs : CS) (x0 : Nat) (x1 : Nat) (x2 : Int32) (cs9 : CS) (r9 : Int32), T.1 cs x0 x1 x2 = some (cs9, r9) → kK cs ≤ kK cs9 ∧ kM cs ≤ kM cs9) (hM_X4_runSelect : ∀ (cs : CS) (x0 : Nat) (x1 : Nat) (x2 : Int32) (cs9 : CS) (r9 : Int32), T.2.1 cs x0 x1 x2 = some (cs9, r9) → kK cs ≤ kK cs9 ∧ kM cs ≤ kM cs9) (hM_X4_joinSources : ∀ (cs : CS) (x0 : Nat) (x1 : Nat) (x2 : Int32) (cs9 : CS) (r9 : Int32), T.2.2.1 cs x0 x1 x2 = some (cs9, r9) → kK cs ≤ kK cs9 ∧ kM cs ≤ kM cs9) (hM_X4_runSource : ∀ (cs : CS) (x0 : Nat) (x1 : Nat) (x2 : Int32) (cs9 : CS) (r9 : Int32), T.2.2.2 cs x0 x1 x2 = some (cs9, r9) → kK cs ≤ kK cs9 ∧ kM cs ≤ kM cs9) : ∀ (lf_22 : Nat) (cs1 : CS) (u0 : Nat) (u1 : Nat) (u2 : Int32) (u3 : Int32) (u4 : Int32) (cs9 : CS) (r9 : Int32), c_X4_runSource_L22 F T lf_22 cs1 u0 u1 u2 u3 u4 = some (cs9, r9) → kK cs1 ≤ kK cs9 ∧ kM cs1 ≤ kM cs9 := by
  intro lf_22
  induction lf_22 with
  | zero => intro cs1 u0 u1 u2 u3 u4 cs9 r9 h; cases (show (none : Option (CS × Int32)) = _ from h)
  | succ lf_22 ih_22 =>
    intro cs1 u0 u1 u2 u3 u4 cs9 r9 h
    rw [c_X4_runSource_L22] at h
    by_cases c_19 : 8 ≤ u4
    · skip
      replace h := (if_pos c_19).symm.trans h
      have h9 := (Prod.mk.inj (Option.some.inj h)).1
      have k9 := congrArg kK h9; have m9 := congrArg kM h9; exact ⟨by omega, by omega⟩
    · skip
      replace h := (if_neg c_19).symm.trans h
      replace h := ob h; obtain ⟨v_20, hv_20, h⟩ := h
      replace h := ob h; obtain ⟨v_21, hv_21, h⟩ := h
      replace h := ob h; obtain ⟨v_22, hv_22, h⟩ := h
      replace h := ob h; obtain ⟨i_24, hi_24, h⟩ := h
      subst hi_24
      replace h := ob h; obtain ⟨w_25, hw_25, h⟩ := h
      replace h := ob h; obtain ⟨v_23, hv_23, h⟩ := h
      by_cases c_26 : v_23 = 0
      · skip
        replace h := (if_pos c_26).symm.trans h
        obtain ⟨k9, m9⟩ := mo_c_X4_runSource_b80 F T hM_X4_runQuery hM_X4_runSelect hM_X4_joinSources hM_X4_runSource (c_X4_runSource_L22 F T lf_22) ih_22 cs1 u0 u1 u2 u3 u4 cs9 r9 h
        exact ⟨by omega, by omega⟩
      · skip
        replace h := (if_neg c_26).symm.trans h
        replace h := ob h; obtain ⟨v_27, hv_27, h⟩ := h
        replace h := ob h; obtain ⟨v_28, hv_28, h⟩ := h
        replace h := ob h; obtain ⟨v_29, hv_29, h⟩ := h
        replace h := ob h; obtain ⟨v_30, hv_30, h⟩ := h
        replace h := ob h; obtain ⟨i_31, hi_31, h⟩ := h
        subst hi_31
        replace h := ob h; obtain ⟨v_32, hv_32, h⟩ := h
        replace h := ob h; obtain ⟨i_33, hi_33, h⟩ := h
        subst hi_33
        replace h := ob h; obtain ⟨i_35, hi_35, h⟩ := h
        subst hi_35
        replace h := ob h; obtain ⟨w_36, hw_36, h⟩ := h
        replace h := ob h; obtain ⟨cs_34, hv_34, h⟩ := h
        obtain ⟨qk_34, qm_34⟩ := mo_c_X7_copyRow F cs1 i_35 v_28 u4 i_33 (u2 + (u3 * v_32)) cs_34 hv_34
        obtain ⟨k9, m9⟩ := mo_c_X4_runSource_b77 F T hM_X4_runQuery hM_X4_runSelect hM_X4_joinSources hM_X4_runSource (c_X4_runSource_L22 F T lf_22) ih_22 cs_34 u0 u1 u2 u3 u4 cs9 r9 h
        exact ⟨by omega, by omega⟩
theorem mo_cb_X4_runSource (F : Nat) (T : TC_X4_runQuery) (hM_X4_runQuery : ∀ (cs : CS) (x0 : Nat) (x1 : Nat) (x2 : Int32) (cs9 : CS) (r9 : Int32), T.1 cs x0 x1 x2 = some (cs9, r9) → kK cs ≤ kK cs9 ∧ kM cs ≤ kM cs9) (hM_X4_runSelect : ∀ (cs : CS) (x0 : Nat) (x1 : Nat) (x2 : Int32) (cs9 : CS) (r9 : Int32), T.2.1 cs x0 x1 x2 = some (cs9, r9) → kK cs ≤ kK cs9 ∧ kM cs ≤ kM cs9) (hM_X4_joinSources : ∀ (cs : CS) (x0 : Nat) (x1 : Nat) (x2 : Int32) (cs9 : CS) (r9 : Int32), T.2.2.1 cs x0 x1 x2 = some (cs9, r9) → kK cs ≤ kK cs9 ∧ kM cs ≤ kM cs9) (hM_X4_runSource : ∀ (cs : CS) (x0 : Nat) (x1 : Nat) (x2 : Int32) (cs9 : CS) (r9 : Int32), T.2.2.2 cs x0 x1 x2 = some (cs9, r9) → kK cs ≤ kK cs9 ∧ kM cs ≤ kM cs9) (cs : CS) (x0 : Nat) (x1 : Nat) (x2 : Int32) (cs9 : CS) (r9 : Int32) (h : cb_X4_runSource F T cs x0 x1 x2 = some (cs9, r9)) : kK cs ≤ kK cs9 ∧ kM cs ≤ kM cs9 := by
  unfold cb_X4_runSource at h
  replace h := ob h; obtain ⟨v_19, hv_19, h⟩ := h
  cases v_19 with
  | none =>
    replace h := oc_n.symm.trans h
    obtain ⟨k9, m9⟩ := mo_c_X4_runSource_L22 F T hM_X4_runQuery hM_X4_runSelect hM_X4_joinSources hM_X4_runSource F cs x0 x1 x2 0 0 cs9 r9 h
    exact ⟨by omega, by omega⟩
  | some i_20 =>
    replace h := oc_s.symm.trans h
    replace h := ob h; obtain ⟨v_21, hv_21, h⟩ := h
    replace h := ob h; obtain ⟨i_22, hi_22, h⟩ := h
    subst hi_22
    replace h := ob h; obtain ⟨w_24, hw_24, h⟩ := h
    replace h := ob h; obtain ⟨z_23, hv_23, h⟩ := h
    obtain ⟨qk_23, qm_23⟩ := hM_X4_runQuery cs x0 i_22 x2 z_23.1 z_23.2 hv_23
    obtain ⟨k9, m9⟩ := mo_c_X4_runSource_b16 F T hM_X4_runQuery hM_X4_runSelect hM_X4_joinSources hM_X4_runSource z_23.1 z_23.2 cs9 r9 h
    exact ⟨by omega, by omega⟩
def tabc_X4_runQuery (F : Nat) : Nat → TC_X4_runQuery
  | 0 => (fun _ _ _ _ => none, fun _ _ _ _ => none, fun _ _ _ _ => none, fun _ _ _ _ => none)
  | n + 1 => (cb_X4_runQuery F (tabc_X4_runQuery F n), cb_X4_runSelect F (tabc_X4_runQuery F n), cb_X4_joinSources F (tabc_X4_runQuery F n), cb_X4_runSource F (tabc_X4_runQuery F n))
set_option maxHeartbeats 4000000 in
set_option maxRecDepth 100000 in
theorem sba_X4_runQuery (l : Launch) (dC : Nat → ClassId) (dI : Nat → Nat → Nat) (cB cI cJ cZ cS cO : ClassId) (b : Nat) (K V : Nat → Nat) (fz : Value) (F : Nat) (n : Nat) (T : TC_X4_runQuery) (hT_X4_runQuery : ∀ (cs : CS) (x0 : Nat) (x1 : Nat) (x2 : Int32) (cs9 : CS) (r9 : Int32), T.1 cs x0 x1 x2 = some (cs9, r9) → oaI l dC dI cB cI cJ cZ cS cO b K V fz yX4_runQuery (wsOf yX4_runQuery cX4_runQuery 9 (some .int)) (n + 7) [.ref (b + x0), .ref (b + x1), .int x2] cs cs9 r9) (hT_X4_runSelect : ∀ (cs : CS) (x0 : Nat) (x1 : Nat) (x2 : Int32) (cs9 : CS) (r9 : Int32), T.2.1 cs x0 x1 x2 = some (cs9, r9) → oaI l dC dI cB cI cJ cZ cS cO b K V fz yX4_runSelect (wsOf yX4_runSelect cX4_runSelect 5 (some .int)) (n + 7) [.ref (b + x0), .ref (b + x1), .int x2] cs cs9 r9) (hT_X4_joinSources : ∀ (cs : CS) (x0 : Nat) (x1 : Nat) (x2 : Int32) (cs9 : CS) (r9 : Int32), T.2.2.1 cs x0 x1 x2 = some (cs9, r9) → oaI l dC dI cB cI cJ cZ cS cO b K V fz yX4_joinSources (wsOf yX4_joinSources cX4_joinSources 8 (some .int)) (n + 7) [.ref (b + x0), .ref (b + x1), .int x2] cs cs9 r9) (hT_X4_runSource : ∀ (cs : CS) (x0 : Nat) (x1 : Nat) (x2 : Int32) (cs9 : CS) (r9 : Int32), T.2.2.2 cs x0 x1 x2 = some (cs9, r9) → oaI l dC dI cB cI cJ cZ cS cO b K V fz yX4_runSource (wsOf yX4_runSource cX4_runSource 5 (some .int)) (n + 7) [.ref (b + x0), .ref (b + x1), .int x2] cs cs9 r9) (cs : CS) (x0 : Nat) (x1 : Nat) (x2 : Int32) (cs9 : CS) (r9 : Int32) (hf : cb_X4_runQuery F T cs x0 x1 x2 = some (cs9, r9)) : oaI l dC dI cB cI cJ cZ cS cO b K V fz yX4_runQuery (wsOf yX4_runQuery cX4_runQuery 9 (some .int)) (n + 1 + 7) [.ref (b + x0), .ref (b + x1), .int x2] cs cs9 r9 := by
  obtain ⟨kb9, mb9⟩ := mo_cb_X4_runQuery F T (fun c_ x_0 x_1 x_2 z_ r_ h_ => (hT_X4_runQuery c_ x_0 x_1 x_2 z_ r_ h_).1) (fun c_ x_0 x_1 x_2 z_ r_ h_ => (hT_X4_runSelect c_ x_0 x_1 x_2 z_ r_ h_).1) (fun c_ x_0 x_1 x_2 z_ r_ h_ => (hT_X4_joinSources c_ x_0 x_1 x_2 z_ r_ h_).1) (fun c_ x_0 x_1 x_2 z_ r_ h_ => (hT_X4_runSource c_ x_0 x_1 x_2 z_ r_ h_).1) cs x0 x1 x2 cs9 r9 hf
  refine ⟨⟨kb9, mb9⟩, ?_⟩
  refine Met.ofW (cc := cX4_runQuery) (maxL := 9) (ret := (some .int)) (by decide) rfl ?_
  intro p e s m args below meth c s₁ B hml hv
  obtain ⟨rfl, hsz, hP, hK, hD0, hZ⟩ := hv
  have hx := B.exec
  have hb := B.bytes
  have hr := B.returns
  have hts := atoms_spec (ws := (wsOf yX4_runQuery cX4_runQuery 9 (some .int))) B.pre
  have hown : s.vm.findClass RX4 = some m.cls := findClass_of_methodNamed B.named
  have hlocks := B.notSynchronized
  have hD := hD0.self (sz := b + kK cs)
  generalize hAe : va_A (cW cB cI cJ cZ cS cO b cs) (b + kK cs) = A at hD hZ ⊢
  have hA : ∀ q : Nat, s.heap.size ≤ q → A q := fun q h => by rw [← hAe]; exact Or.inr (by omega)
  have hS : va_S A s.heap s.heap [] := va_S.rf
  have hG : va_S A s.heap s.heap [] := va_S.rf
  have hgz : s.heap.size = b + kK cs := hsz
  have hl := lv_entry ([.ref (b + x0), .ref (b + x1), .int x2]) (n := 9) (Nat.le_of_ble_eq_true rfl)
  rw [lg_entry_eq]
  generalize (lg_sl ([.ref (b + x0), .ref (b + x1), .int x2]) ++ List.replicate (9 - (lg_sl ([.ref (b + x0), .ref (b + x1), .int x2])).length) Slot.unset).toArray = ls at hl ⊢
  have hl : lv_has ls 9 [(0, .ref (b + x0)), (1, .ref (b + x1)), (2, .int x2)] := hl
  have B_117 : ∀ (cs1 : CS) (y0 : Int32), c_X4_runQuery_b117 F T cs1 y0 = some (cs9, r9) → kK cs ≤ kK cs1 → kM cs ≤ kM cs1 → ∀ (Gh H : Heap) (locs : List Loc) (ls : Array Slot), va_P (dC, dI) vwCl (cW cB cI cJ cZ cS cO b cs1) H → va_D A (cW cB cI cJ cZ cS cO b cs1) → va_S A s.heap Gh [] → Gh.size = b + kK cs1 → va_S A Gh H locs → lv_has ls 9 [] → W p l e (headSpec (wsOf yX4_runQuery cX4_runQuery 9 (some .int)) ({ frames := n + 1 + 7, cells := kK cs9 - kK cs, slots := kM cs9 - kM cs, locals := 60 * (n + 1 + 7) } : Room)).room s m ([.ref (b + x0), .ref (b + x1), .int x2] : List Value).toArray below meth c H locs (kK cs1 - kK cs) (kM cs1 - kM cs) (MQ below (va_Qi (fun (x : Int32) (_ : Unit) => x = r9) (fun _ t_ => va_P (dC, dI) vwCl (cW cB cI cJ cZ cS cO b cs9) t_.heap ∧ va_D A (cW cB cI cJ cZ cS cO b cs9) ∧ b + kK cs9 ≤ t_.heap.size) A) ([.ref (b + x0), .ref (b + x1), .int x2] : List Value).toArray s (kK cs9 - kK cs) (kM cs9 - kM cs) A) (F0 m 117 ls [.int y0]) := by
    intro cs1 y0 h hmk hmm Gh H locs ls hP hD hG hgz hS hl
    obtain ⟨kb9, mb9⟩ := mo_c_X4_runQuery_b117 F T (fun c_ x_0 x_1 x_2 z_ r_ h_ => (hT_X4_runQuery c_ x_0 x_1 x_2 z_ r_ h_).1) (fun c_ x_0 x_1 x_2 z_ r_ h_ => (hT_X4_runSelect c_ x_0 x_1 x_2 z_ r_ h_).1) (fun c_ x_0 x_1 x_2 z_ r_ h_ => (hT_X4_joinSources c_ x_0 x_1 x_2 z_ r_ h_).1) (fun c_ x_0 x_1 x_2 z_ r_ h_ => (hT_X4_runSource c_ x_0 x_1 x_2 z_ r_ h_).1) cs1 y0 cs9 r9 h
    unfold c_X4_runQuery_b117 at h
    obtain ⟨e1, e2⟩ := Prod.mk.inj (Option.some.inj h)
    rw [e1] at hP hD
    have e3 := congrArg kK e1
    have e4 := congrArg kM e1
    refine W_cnt (c2 := kK cs9 - kK cs) (n2 := kM cs9 - kM cs) (by omega) (by omega) ?_
    exact W.iret (v := y0) hx hb hr (fun t_ ht hW => ⟨⟨y0, (), rfl, e2, by rw [ht]; exact hP, hD, by rw [ht]; have := hS.1; omega⟩, (hG.comp hS).F ht⟩) (hG.comp hS).2.2 dX4_runQuery_117
  have L_14 : ∀ (lf_14 : Nat), ∀ (cs1 : CS) (u0 : Nat) (u1 : Nat) (u2 : Int32) (u3 : Int32) (u4 : Int32) (u5 : Int32), c_X4_runQuery_L14 F T lf_14 cs1 u0 u1 u2 u3 u4 u5 = some (cs9, r9) → kK cs ≤ kK cs1 → kM cs ≤ kM cs1 → ∀ (Gh H : Heap) (locs : List Loc) (ls : Array Slot), va_P (dC, dI) vwCl (cW cB cI cJ cZ cS cO b cs1) H → va_D A (cW cB cI cJ cZ cS cO b cs1) → va_S A s.heap Gh [] → Gh.size = b + kK cs1 → va_S A Gh H locs → lv_has ls 9 [(0, .ref (b + u0)), (1, .ref (b + u1)), (2, .int u2), (3, .int u3), (4, .int u4), (5, .int u5)] → W p l e (headSpec (wsOf yX4_runQuery cX4_runQuery 9 (some .int)) ({ frames := n + 1 + 7, cells := kK cs9 - kK cs, slots := kM cs9 - kM cs, locals := 60 * (n + 1 + 7) } : Room)).room s m ([.ref (b + x0), .ref (b + x1), .int x2] : List Value).toArray below meth c H locs (kK cs1 - kK cs) (kM cs1 - kM cs) (MQ below (va_Qi (fun (x : Int32) (_ : Unit) => x = r9) (fun _ t_ => va_P (dC, dI) vwCl (cW cB cI cJ cZ cS cO b cs9) t_.heap ∧ va_D A (cW cB cI cJ cZ cS cO b cs9) ∧ b + kK cs9 ≤ t_.heap.size) A) ([.ref (b + x0), .ref (b + x1), .int x2] : List Value).toArray s (kK cs9 - kK cs) (kM cs9 - kM cs) A) (F0 m 14 ls []) := by
    intro lf_14
    induction lf_14 with
    | zero => intro cs1 u0 u1 u2 u3 u4 u5 h; cases (show (none : Option (CS × Int32)) = _ from h)
    | succ lf_14 ih_14 =>
      have B_83 : ∀ (cs1 : CS) (u0 : Nat) (u1 : Nat) (u2 : Int32) (u4 : Int32) (u5 : Int32) (y0 : Int32), c_X4_runQuery_b83 F T (c_X4_runQuery_L14 F T lf_14) cs1 u0 u1 u2 u4 u5 y0 = some (cs9, r9) → kK cs ≤ kK cs1 → kM cs ≤ kM cs1 → ∀ (Gh H : Heap) (locs : List Loc) (ls : Array Slot), va_P (dC, dI) vwCl (cW cB cI cJ cZ cS cO b cs1) H → va_D A (cW cB cI cJ cZ cS cO b cs1) → va_S A s.heap Gh [] → Gh.size = b + kK cs1 → va_S A Gh H locs → lv_has ls 9 [(0, .ref (b + u0)), (1, .ref (b + u1)), (2, .int u2), (4, .int u4), (5, .int u5)] → W p l e (headSpec (wsOf yX4_runQuery cX4_runQuery 9 (some .int)) ({ frames := n + 1 + 7, cells := kK cs9 - kK cs, slots := kM cs9 - kM cs, locals := 60 * (n + 1 + 7) } : Room)).room s m ([.ref (b + x0), .ref (b + x1), .int x2] : List Value).toArray below meth c H locs (kK cs1 - kK cs) (kM cs1 - kM cs) (MQ below (va_Qi (fun (x : Int32) (_ : Unit) => x = r9) (fun _ t_ => va_P (dC, dI) vwCl (cW cB cI cJ cZ cS cO b cs9) t_.heap ∧ va_D A (cW cB cI cJ cZ cS cO b cs9) ∧ b + kK cs9 ≤ t_.heap.size) A) ([.ref (b + x0), .ref (b + x1), .int x2] : List Value).toArray s (kK cs9 - kK cs) (kM cs9 - kM cs) A) (F0 m 83 ls [.int y0]) := by
        intro cs1 u0 u1 u2 u4 u5 y0 h hmk hmm Gh H locs ls hP hD hG hgz hS hl
        obtain ⟨kb9, mb9⟩ := mo_c_X4_runQuery_b83 F T (fun c_ x_0 x_1 x_2 z_ r_ h_ => (hT_X4_runQuery c_ x_0 x_1 x_2 z_ r_ h_).1) (fun c_ x_0 x_1 x_2 z_ r_ h_ => (hT_X4_runSelect c_ x_0 x_1 x_2 z_ r_ h_).1) (fun c_ x_0 x_1 x_2 z_ r_ h_ => (hT_X4_joinSources c_ x_0 x_1 x_2 z_ r_ h_).1) (fun c_ x_0 x_1 x_2 z_ r_ h_ => (hT_X4_runSource c_ x_0 x_1 x_2 z_ r_ h_).1) (c_X4_runQuery_L14 F T lf_14) (mo_c_X4_runQuery_L14 F T (fun c_ x_0 x_1 x_2 z_ r_ h_ => (hT_X4_runQuery c_ x_0 x_1 x_2 z_ r_ h_).1) (fun c_ x_0 x_1 x_2 z_ r_ h_ => (hT_X4_runSelect c_ x_0 x_1 x_2 z_ r_ h_).1) (fun c_ x_0 x_1 x_2 z_ r_ h_ => (hT_X4_joinSources c_ x_0 x_1 x_2 z_ r_ h_).1) (fun c_ x_0 x_1 x_2 z_ r_ h_ => (hT_X4_runSource c_ x_0 x_1 x_2 z_ r_ h_).1) lf_14) cs1 u0 u1 u2 u4 u5 y0 cs9 r9 h
        unfold c_X4_runQuery_b83 at h
        refine lv_istore_n (lv' := [(3, .int y0), (0, .ref (b + u0)), (1, .ref (b + u1)), (2, .int u2), (4, .int u4), (5, .int u5)]) hx hb dX4_runQuery_83 rfl hl (by decide) rfl (fun ls hl => ?_)
        refine lv_iinc (v := u5 + 1) (lv' := [(5, .int (u5 + 1)), (3, .int y0), (0, .ref (b + u0)), (1, .ref (b + u1)), (2, .int u2), (4, .int u4)]) hx hb dX4_runQuery_84 hl (k := 5) rfl rfl (by decide) rfl (fun ls hl => ?_)
        refine lv_goto (tgt := 14) hx hb dX4_runQuery_87 (by decide) ?_
        refine W_cnt (c2 := kK cs1 - kK cs) (n2 := kM cs1 - kM cs) (by omega) (by omega) ?_
        exact ih_14 cs1 u0 u1 u2 y0 u4 (u5 + 1) h (by omega) (by omega) _ _ _ _ hP hD hG (by omega) hS (lv_sub hl [2, 3, 4, 1, 5, 0] rfl)
      have B_56 : ∀ (cs1 : CS) (u0 : Nat) (u1 : Nat) (u2 : Int32) (u3 : Int32) (u4 : Int32) (u5 : Int32) (u6 : Nat) (y0 : Int32), c_X4_runQuery_b56 F T (c_X4_runQuery_L14 F T lf_14) cs1 u0 u1 u2 u3 u4 u5 u6 y0 = some (cs9, r9) → kK cs ≤ kK cs1 → kM cs ≤ kM cs1 → ∀ (Gh H : Heap) (locs : List Loc) (ls : Array Slot), va_P (dC, dI) vwCl (cW cB cI cJ cZ cS cO b cs1) H → va_D A (cW cB cI cJ cZ cS cO b cs1) → va_S A s.heap Gh [] → Gh.size = b + kK cs1 → va_S A Gh H locs → lv_has ls 9 [(0, .ref (b + u0)), (1, .ref (b + u1)), (2, .int u2), (3, .int u3), (4, .int u4), (5, .int u5), (6, .ref (b + u6))] → W p l e (headSpec (wsOf yX4_runQuery cX4_runQuery 9 (some .int)) ({ frames := n + 1 + 7, cells := kK cs9 - kK cs, slots := kM cs9 - kM cs, locals := 60 * (n + 1 + 7) } : Room)).room s m ([.ref (b + x0), .ref (b + x1), .int x2] : List Value).toArray below meth c H locs (kK cs1 - kK cs) (kM cs1 - kM cs) (MQ below (va_Qi (fun (x : Int32) (_ : Unit) => x = r9) (fun _ t_ => va_P (dC, dI) vwCl (cW cB cI cJ cZ cS cO b cs9) t_.heap ∧ va_D A (cW cB cI cJ cZ cS cO b cs9) ∧ b + kK cs9 ≤ t_.heap.size) A) ([.ref (b + x0), .ref (b + x1), .int x2] : List Value).toArray s (kK cs9 - kK cs) (kM cs9 - kM cs) A) (F0 m 56 ls [.int y0]) := by
        intro cs1 u0 u1 u2 u3 u4 u5 u6 y0 h hmk hmm Gh H locs ls hP hD hG hgz hS hl
        obtain ⟨kb9, mb9⟩ := mo_c_X4_runQuery_b56 F T (fun c_ x_0 x_1 x_2 z_ r_ h_ => (hT_X4_runQuery c_ x_0 x_1 x_2 z_ r_ h_).1) (fun c_ x_0 x_1 x_2 z_ r_ h_ => (hT_X4_runSelect c_ x_0 x_1 x_2 z_ r_ h_).1) (fun c_ x_0 x_1 x_2 z_ r_ h_ => (hT_X4_joinSources c_ x_0 x_1 x_2 z_ r_ h_).1) (fun c_ x_0 x_1 x_2 z_ r_ h_ => (hT_X4_runSource c_ x_0 x_1 x_2 z_ r_ h_).1) (c_X4_runQuery_L14 F T lf_14) (mo_c_X4_runQuery_L14 F T (fun c_ x_0 x_1 x_2 z_ r_ h_ => (hT_X4_runQuery c_ x_0 x_1 x_2 z_ r_ h_).1) (fun c_ x_0 x_1 x_2 z_ r_ h_ => (hT_X4_runSelect c_ x_0 x_1 x_2 z_ r_ h_).1) (fun c_ x_0 x_1 x_2 z_ r_ h_ => (hT_X4_joinSources c_ x_0 x_1 x_2 z_ r_ h_).1) (fun c_ x_0 x_1 x_2 z_ r_ h_ => (hT_X4_runSource c_ x_0 x_1 x_2 z_ r_ h_).1) lf_14) cs1 u0 u1 u2 u3 u4 u5 u6 y0 cs9 r9 h
        unfold c_X4_runQuery_b56 at h
        refine lv_istore (lv' := [(8, .int y0), (0, .ref (b + u0)), (1, .ref (b + u1)), (2, .int u2), (3, .int u3), (4, .int u4), (5, .int u5), (6, .ref (b + u6))]) hx hb dX4_runQuery_56 hl (by decide) rfl (fun ls hl => ?_)
        refine lv_iload hx hb dX4_runQuery_58 (lv_at hl 6 rfl) ?_
        refine lv_if_ne (tgt := 68) hx hb dX4_runQuery_60 (by decide) (fun c_1 => ?_) (fun c_1 => ?_)
        · skip
          replace h := (if_neg c_1).symm.trans h
          refine lv_aload_n hx hb dX4_runQuery_68 rfl (lv_at hl 1 rfl) ?_
          refine lv_aload hx hb dX4_runQuery_69 (lv_at hl 7 rfl) ?_
          replace h := ob h; obtain ⟨v_2, hv_2, h⟩ := h
          refine fg_X4_54 hx hb hts hown hK hP hv_2 dX4_runQuery_71 ?_
          refine lv_iload_n hx hb dX4_runQuery_74 rfl (lv_at hl 3 rfl) ?_
          refine lv_iload_n hx hb dX4_runQuery_75 rfl (lv_at hl 4 rfl) ?_
          refine lv_iload hx hb dX4_runQuery_76 (lv_at hl 0 rfl) ?_
          refine lv_iload hx hb dX4_runQuery_78 (lv_at hl 5 rfl) ?_
          replace h := ob h; obtain ⟨w_4, hw_4, h⟩ := h
          replace h := ob h; obtain ⟨z_3, hv_3, h⟩ := h
          obtain ⟨qk_3, qm_3⟩ := mo_c_X4_combine F cs1 u0 v_2 u2 u3 y0 u4 z_3.1 z_3.2 hv_3
          obtain ⟨k9_3, m9_3⟩ := mo_c_X4_runQuery_b83 F T (fun c_ x_0 x_1 x_2 z_ r_ h_ => (hT_X4_runQuery c_ x_0 x_1 x_2 z_ r_ h_).1) (fun c_ x_0 x_1 x_2 z_ r_ h_ => (hT_X4_runSelect c_ x_0 x_1 x_2 z_ r_ h_).1) (fun c_ x_0 x_1 x_2 z_ r_ h_ => (hT_X4_joinSources c_ x_0 x_1 x_2 z_ r_ h_).1) (fun c_ x_0 x_1 x_2 z_ r_ h_ => (hT_X4_runSource c_ x_0 x_1 x_2 z_ r_ h_).1) (c_X4_runQuery_L14 F T lf_14) (mo_c_X4_runQuery_L14 F T (fun c_ x_0 x_1 x_2 z_ r_ h_ => (hT_X4_runQuery c_ x_0 x_1 x_2 z_ r_ h_).1) (fun c_ x_0 x_1 x_2 z_ r_ h_ => (hT_X4_runSelect c_ x_0 x_1 x_2 z_ r_ h_).1) (fun c_ x_0 x_1 x_2 z_ r_ h_ => (hT_X4_joinSources c_ x_0 x_1 x_2 z_ r_ h_).1) (fun c_ x_0 x_1 x_2 z_ r_ h_ => (hT_X4_runSource c_ x_0 x_1 x_2 z_ r_ h_).1) lf_14) z_3.1 u0 u1 u2 u4 u5 z_3.2 cs9 r9 h
          refine cavI (As := [.int v_2, .int u2, .int u3, .int y0, .int u4]) hx hb hml hts hown hK hP hD hS hG hA (by omega) (by omega) hZ (X := 5) (by decide) rfl (ckE_some hw_4) (sa_X4_combine l dC dI cB cI cJ cZ cS cO b K V fz F cs1 u0 v_2 u2 u3 y0 u4 z_3.1 z_3.2 hv_3) (cw_X4_X4_combine hts (fr := 6) (by show 6 + 1 ≤ n + 1 + 7; omega) (by show 8 + (7 + 11) + 60 * (6) ≤ 60 * (n + 1 + 7); omega)) rfl hl.1 (Nat.le_of_ble_eq_true rfl) ⟨by show kK cs1 - kK cs + (kK z_3.1 - kK cs1) ≤ kK cs9 - kK cs; omega, by show kM cs1 - kM cs + (kM z_3.1 - kM cs1) ≤ kM cs9 - kM cs; omega⟩ dX4_runQuery_80 (fun H locs hP hD hG hgz hS => ?_)
          refine W_cnt (c2 := kK z_3.1 - kK cs) (n2 := kM z_3.1 - kM cs) (by omega) (by omega) ?_
          exact B_83 z_3.1 u0 u1 u2 u4 u5 z_3.2 h (by omega) (by omega) _ _ _ _ hP hD hG (by omega) hS (lv_sub hl [1, 2, 3, 5, 6] rfl)
        · skip
          replace h := (if_pos c_1).symm.trans h
          refine lv_iload hx hb dX4_runQuery_63 (lv_at hl 0 rfl) ?_
          refine lv_goto (tgt := 83) hx hb dX4_runQuery_65 (by decide) ?_
          refine W_cnt (c2 := kK cs1 - kK cs) (n2 := kM cs1 - kM cs) (by omega) (by omega) ?_
          exact B_83 cs1 u0 u1 u2 u4 u5 y0 h (by omega) (by omega) _ _ _ _ hP hD hG (by omega) hS (lv_sub hl [1, 2, 3, 5, 6] rfl)
      intro cs1 u0 u1 u2 u3 u4 u5 h hmk hmm Gh H locs ls hP hD hG hgz hS hl
      obtain ⟨kb9, mb9⟩ := mo_c_X4_runQuery_L14 F T (fun c_ x_0 x_1 x_2 z_ r_ h_ => (hT_X4_runQuery c_ x_0 x_1 x_2 z_ r_ h_).1) (fun c_ x_0 x_1 x_2 z_ r_ h_ => (hT_X4_runSelect c_ x_0 x_1 x_2 z_ r_ h_).1) (fun c_ x_0 x_1 x_2 z_ r_ h_ => (hT_X4_joinSources c_ x_0 x_1 x_2 z_ r_ h_).1) (fun c_ x_0 x_1 x_2 z_ r_ h_ => (hT_X4_runSource c_ x_0 x_1 x_2 z_ r_ h_).1) (lf_14 + 1) cs1 u0 u1 u2 u3 u4 u5 cs9 r9 h
      rw [c_X4_runQuery_L14] at h
      refine lv_iload hx hb dX4_runQuery_14 (lv_at hl 5 rfl) ?_
      refine lv_aload_n hx hb dX4_runQuery_16 rfl (lv_at hl 1 rfl) ?_
      replace h := ob h; obtain ⟨v_5, hv_5, h⟩ := h
      refine fg_X4_35 hx hb hts hown hK hP hv_5 dX4_runQuery_17 ?_
      replace h := ob h; obtain ⟨i_7, hi_7, h⟩ := h
      subst hi_7
      replace h := ob h; obtain ⟨w_8, hw_8, h⟩ := h
      replace h := ob h; obtain ⟨v_6, hv_6, h⟩ := h
      refine cbvI (As := []) hx hb hml hts hown hK hP hD hS hG hA (by omega) (by omega) hZ (X := 0) (by decide) rfl (ckE_some hw_8) (sc_Jx4a65c_size_8abf5 l dC dI cB cI cJ cZ cS cO b K V fz F cs1 i_7 v_6 hv_6) (cw_X4_Jx4a65c_size_8abf5 hts (fr := 0) (by show 0 + 1 ≤ n + 1 + 7; omega) (by show 8 + (1 + 11) + 60 * (0) ≤ 60 * (n + 1 + 7); omega)) rfl hl.1 (Nat.le_of_ble_eq_true rfl) ⟨by show kK cs1 - kK cs ≤ kK cs9 - kK cs; omega, by show kM cs1 - kM cs ≤ kM cs9 - kM cs; omega⟩ dX4_runQuery_20 (fun H locs hP hD hG hgz hS => ?_)
      refine lv_icmp_ge (tgt := 90) hx hb dX4_runQuery_23 (by decide) (fun c_9 => ?_) (fun c_9 => ?_)
      · skip
        replace h := (if_pos c_9).symm.trans h
        refine lv_aload_n hx hb dX4_runQuery_90 rfl (lv_at hl 1 rfl) ?_
        replace h := ob h; obtain ⟨v_10, hv_10, h⟩ := h
        refine fg_X4_61 hx hb hts hown hK hP hv_10 dX4_runQuery_91 ?_
        cases v_10 with
        | none =>
          replace h := oc_n.symm.trans h
          refine lv_ifnonnullN hx hb dX4_runQuery_94 ?_
          refine lv_iload_n hx hb dX4_runQuery_97 rfl (lv_at hl 3 rfl) ?_
          refine lv_goto (tgt := 117) hx hb dX4_runQuery_98 (by decide) ?_
          refine W_cnt (c2 := kK cs1 - kK cs) (n2 := kM cs1 - kM cs) (by omega) (by omega) ?_
          exact B_117 cs1 u3 h (by omega) (by omega) _ _ _ _ hP hD hG (by omega) hS (lv_sub hl [] rfl)
        | some i_11 =>
          replace h := oc_s.symm.trans h
          refine lv_ifnonnull (tgt := 101) hx hb dX4_runQuery_94 (by decide) ?_
          refine lv_aload_n hx hb dX4_runQuery_101 rfl (lv_at hl 0 rfl) ?_
          refine lv_aload_n hx hb dX4_runQuery_102 rfl (lv_at hl 1 rfl) ?_
          replace h := ob h; obtain ⟨v_12, hv_12, h⟩ := h
          refine fg_X4_61 hx hb hts hown hK hP hv_12 dX4_runQuery_103 ?_
          refine lv_aload_n hx hb dX4_runQuery_106 rfl (lv_at hl 1 rfl) ?_
          replace h := ob h; obtain ⟨v_13, hv_13, h⟩ := h
          refine fg_X4_64 hx hb hts hown hK hP hv_13 dX4_runQuery_107 ?_
          refine lv_iload_n hx hb dX4_runQuery_110 rfl (lv_at hl 2 rfl) ?_
          refine lv_iload_n hx hb dX4_runQuery_111 rfl (lv_at hl 3 rfl) ?_
          refine lv_iload hx hb dX4_runQuery_112 (lv_at hl 4 rfl) ?_
          replace h := ob h; obtain ⟨i_14, hi_14, h⟩ := h
          subst hi_14
          replace h := ob h; obtain ⟨w_16, hw_16, h⟩ := h
          replace h := ob h; obtain ⟨z_15, hv_15, h⟩ := h
          obtain ⟨qk_15, qm_15⟩ := mo_c_X4_order F cs1 u0 i_14 v_13 u2 u3 u4 z_15.1 z_15.2 hv_15
          obtain ⟨k9_15, m9_15⟩ := mo_c_X4_runQuery_b117 F T (fun c_ x_0 x_1 x_2 z_ r_ h_ => (hT_X4_runQuery c_ x_0 x_1 x_2 z_ r_ h_).1) (fun c_ x_0 x_1 x_2 z_ r_ h_ => (hT_X4_runSelect c_ x_0 x_1 x_2 z_ r_ h_).1) (fun c_ x_0 x_1 x_2 z_ r_ h_ => (hT_X4_joinSources c_ x_0 x_1 x_2 z_ r_ h_).1) (fun c_ x_0 x_1 x_2 z_ r_ h_ => (hT_X4_runSource c_ x_0 x_1 x_2 z_ r_ h_).1) z_15.1 z_15.2 cs9 r9 h
          refine cavI (As := [.ref (b + i_14), .int v_13, .int u2, .int u3, .int u4]) hx hb hml hts hown hK hP hD hS hG hA (by omega) (by omega) hZ (X := 5) (by decide) rfl (ckE_some hw_16) (sa_X4_order l dC dI cB cI cJ cZ cS cO b K V fz F cs1 u0 i_14 v_13 u2 u3 u4 z_15.1 z_15.2 hv_15) (cw_X4_X4_order hts (fr := 6) (by show 6 + 1 ≤ n + 1 + 7; omega) (by show 8 + (10 + 11) + 60 * (6) ≤ 60 * (n + 1 + 7); omega)) rfl hl.1 (Nat.le_of_ble_eq_true rfl) ⟨by show kK cs1 - kK cs + (kK z_15.1 - kK cs1) ≤ kK cs9 - kK cs; omega, by show kM cs1 - kM cs + (kM z_15.1 - kM cs1) ≤ kM cs9 - kM cs; omega⟩ dX4_runQuery_114 (fun H locs hP hD hG hgz hS => ?_)
          refine W_cnt (c2 := kK z_15.1 - kK cs) (n2 := kM z_15.1 - kM cs) (by omega) (by omega) ?_
          exact B_117 z_15.1 z_15.2 h (by omega) (by omega) _ _ _ _ hP hD hG (by omega) hS (lv_sub hl [] rfl)
      · skip
        replace h := (if_neg c_9).symm.trans h
        refine lv_aload_n hx hb dX4_runQuery_26 rfl (lv_at hl 1 rfl) ?_
        replace h := ob h; obtain ⟨v_17, hv_17, h⟩ := h
        refine fg_X4_35 hx hb hts hown hK hP hv_17 dX4_runQuery_27 ?_
        refine lv_iload hx hb dX4_runQuery_30 (lv_at hl 5 rfl) ?_
        replace h := ob h; obtain ⟨i_19, hi_19, h⟩ := h
        subst hi_19
        replace h := ob h; obtain ⟨w_20, hw_20, h⟩ := h
        replace h := ob h; obtain ⟨v_18, hv_18, h⟩ := h
        refine cbvR (As := [.int u5]) hx hb hml hts hown hK hP hD hS hG hA (by omega) (by omega) hZ (X := 0) (by decide) rfl (ckE_some hw_20) (sc_Jx4a65c_get_915e3 l dC dI cB cI cJ cZ cS cO b K V fz F cs1 i_19 u5 v_18 hv_18) (cw_X4_Jx4a65c_get_915e3 hts (fr := 2) (by show 2 + 1 ≤ n + 1 + 7; omega) (by show 8 + (2 + 11) + 60 * (2) ≤ 60 * (n + 1 + 7); omega)) rfl hl.1 (Nat.le_of_ble_eq_true rfl) ⟨by show kK cs1 - kK cs ≤ kK cs9 - kK cs; omega, by show kM cs1 - kM cs ≤ kM cs9 - kM cs; omega⟩ dX4_runQuery_32 (fun H locs hP hD hG hgz hS => ?_)
        replace h := ob h; obtain ⟨w_21, hw_21, h⟩ := h
        obtain ⟨k_21, -, hg_21⟩ := cO_at (b := b) (cB := cB) (cI := cI) (cJ := cJ) (cZ := cZ) (cS := cS) (cO := cO) (by decide) (ckE_some hw_21)
        refine va_castY (C := RX5) hx hb hown (hts _ (List.mem_cons_of_mem _ kw_1370)) hZ.cSS (va_recv hK hP (ci := 6) (q0 := k_21) rfl hg_21) dX4_runQuery_35 ?_
        refine lv_astore (lv' := [(6, .ref (b + v_18)), (0, .ref (b + u0)), (1, .ref (b + u1)), (2, .int u2), (3, .int u3), (4, .int u4), (5, .int u5)]) hx hb dX4_runQuery_38 hl (by decide) rfl (fun ls hl => ?_)
        refine lv_iload_n hx hb dX4_runQuery_40 rfl (lv_at hl 3 rfl) ?_
        refine lv_iload_n hx hb dX4_runQuery_41 rfl (lv_at hl 4 rfl) ?_
        refine lv_iload hx hb dX4_runQuery_42 (lv_at hl 5 rfl) ?_
        refine lv_imul hx hb dX4_runQuery_44 ?_
        refine lv_iadd hx hb dX4_runQuery_45 ?_
        refine lv_istore (lv' := [(7, .int (u2 + (u3 * u4))), (6, .ref (b + v_18)), (0, .ref (b + u0)), (1, .ref (b + u1)), (2, .int u2), (3, .int u3), (4, .int u4), (5, .int u5)]) hx hb dX4_runQuery_46 hl (by decide) rfl (fun ls hl => ?_)
        refine lv_aload_n hx hb dX4_runQuery_48 rfl (lv_at hl 2 rfl) ?_
        refine lv_aload hx hb dX4_runQuery_49 (lv_at hl 1 rfl) ?_
        refine lv_iload hx hb dX4_runQuery_51 (lv_at hl 0 rfl) ?_
        replace h := ob h; obtain ⟨w_23, hw_23, h⟩ := h
        replace h := ob h; obtain ⟨z_22, hv_22, h⟩ := h
        obtain ⟨qk_22, qm_22⟩ := (hT_X4_runSelect cs1 u0 v_18 (u2 + (u3 * u4)) z_22.1 z_22.2 hv_22).1
        obtain ⟨k9_22, m9_22⟩ := mo_c_X4_runQuery_b56 F T (fun c_ x_0 x_1 x_2 z_ r_ h_ => (hT_X4_runQuery c_ x_0 x_1 x_2 z_ r_ h_).1) (fun c_ x_0 x_1 x_2 z_ r_ h_ => (hT_X4_runSelect c_ x_0 x_1 x_2 z_ r_ h_).1) (fun c_ x_0 x_1 x_2 z_ r_ h_ => (hT_X4_joinSources c_ x_0 x_1 x_2 z_ r_ h_).1) (fun c_ x_0 x_1 x_2 z_ r_ h_ => (hT_X4_runSource c_ x_0 x_1 x_2 z_ r_ h_).1) (c_X4_runQuery_L14 F T lf_14) (mo_c_X4_runQuery_L14 F T (fun c_ x_0 x_1 x_2 z_ r_ h_ => (hT_X4_runQuery c_ x_0 x_1 x_2 z_ r_ h_).1) (fun c_ x_0 x_1 x_2 z_ r_ h_ => (hT_X4_runSelect c_ x_0 x_1 x_2 z_ r_ h_).1) (fun c_ x_0 x_1 x_2 z_ r_ h_ => (hT_X4_joinSources c_ x_0 x_1 x_2 z_ r_ h_).1) (fun c_ x_0 x_1 x_2 z_ r_ h_ => (hT_X4_runSource c_ x_0 x_1 x_2 z_ r_ h_).1) lf_14) z_22.1 u0 u1 u2 u3 u4 u5 v_18 z_22.2 cs9 r9 h
        refine cavI (As := [.ref (b + v_18), .int (u2 + (u3 * u4))]) hx hb hml hts hown hK hP hD hS hG hA (by omega) (by omega) hZ (X := 5) (by decide) rfl (ckE_some hw_23) (hT_X4_runSelect cs1 u0 v_18 (u2 + (u3 * u4)) z_22.1 z_22.2 hv_22) (cw_X4_X4_runSelect hts (fr := n + 7) (by show n + 7 + 1 ≤ n + 1 + 7; omega) (by show 8 + (5 + 11) + 60 * (n + 7) ≤ 60 * (n + 1 + 7); omega)) rfl hl.1 (Nat.le_of_ble_eq_true rfl) ⟨by show kK cs1 - kK cs + (kK z_22.1 - kK cs1) ≤ kK cs9 - kK cs; omega, by show kM cs1 - kM cs + (kM z_22.1 - kM cs1) ≤ kM cs9 - kM cs; omega⟩ dX4_runQuery_53 (fun H locs hP hD hG hgz hS => ?_)
        refine W_cnt (c2 := kK z_22.1 - kK cs) (n2 := kM z_22.1 - kM cs) (by omega) (by omega) ?_
        exact B_56 z_22.1 u0 u1 u2 u3 u4 u5 v_18 z_22.2 h (by omega) (by omega) _ _ _ _ hP hD hG (by omega) hS (lv_sub hl [2, 3, 4, 5, 6, 7, 1] rfl)
  have h := hf
  unfold cb_X4_runQuery at h
  refine W_cnt (c2 := kK cs - kK cs) (n2 := kM cs - kM cs) (by omega) (by omega) ?_
  refine lv_iconst (v := 0) hx hb dX4_runQuery_0 (by decide) ?_
  refine lv_istore_n (lv' := [(3, .int 0), (0, .ref (b + x0)), (1, .ref (b + x1)), (2, .int x2)]) hx hb dX4_runQuery_1 rfl hl (by decide) rfl (fun ls hl => ?_)
  refine lv_aload_n hx hb dX4_runQuery_2 rfl (lv_at hl 2 rfl) ?_
  replace h := ob h; obtain ⟨v_24, hv_24, h⟩ := h
  refine fg_X4_23 hx hb hts hown hK hP hv_24 dX4_runQuery_3 ?_
  replace h := ob h; obtain ⟨i_25, hi_25, h⟩ := h
  subst hi_25
  replace h := ob h; obtain ⟨v_26, hv_26, h⟩ := h
  refine fg_X4_29 hx hb hts hown hK hP hv_26 dX4_runQuery_6 ?_
  refine lv_istore (lv' := [(4, .int v_26), (3, .int 0), (0, .ref (b + x0)), (1, .ref (b + x1)), (2, .int x2)]) hx hb dX4_runQuery_9 hl (by decide) rfl (fun ls hl => ?_)
  refine lv_iconst (v := 0) hx hb dX4_runQuery_11 (by decide) ?_
  refine lv_istore (lv' := [(5, .int 0), (4, .int v_26), (3, .int 0), (0, .ref (b + x0)), (1, .ref (b + x1)), (2, .int x2)]) hx hb dX4_runQuery_12 hl (by decide) rfl (fun ls hl => ?_)
  refine W_cnt (c2 := kK cs - kK cs) (n2 := kM cs - kM cs) (by omega) (by omega) ?_
  exact L_14 F cs x0 x1 x2 0 v_26 0 h (by omega) (by omega) _ _ _ _ hP hD hG (by omega) hS (lv_sub hl [3, 4, 5, 2, 1, 0] rfl)
set_option maxHeartbeats 4000000 in
set_option maxRecDepth 100000 in
theorem sba_X4_runSelect (l : Launch) (dC : Nat → ClassId) (dI : Nat → Nat → Nat) (cB cI cJ cZ cS cO : ClassId) (b : Nat) (K V : Nat → Nat) (fz : Value) (F : Nat) (n : Nat) (T : TC_X4_runQuery) (hT_X4_runQuery : ∀ (cs : CS) (x0 : Nat) (x1 : Nat) (x2 : Int32) (cs9 : CS) (r9 : Int32), T.1 cs x0 x1 x2 = some (cs9, r9) → oaI l dC dI cB cI cJ cZ cS cO b K V fz yX4_runQuery (wsOf yX4_runQuery cX4_runQuery 9 (some .int)) (n + 7) [.ref (b + x0), .ref (b + x1), .int x2] cs cs9 r9) (hT_X4_runSelect : ∀ (cs : CS) (x0 : Nat) (x1 : Nat) (x2 : Int32) (cs9 : CS) (r9 : Int32), T.2.1 cs x0 x1 x2 = some (cs9, r9) → oaI l dC dI cB cI cJ cZ cS cO b K V fz yX4_runSelect (wsOf yX4_runSelect cX4_runSelect 5 (some .int)) (n + 7) [.ref (b + x0), .ref (b + x1), .int x2] cs cs9 r9) (hT_X4_joinSources : ∀ (cs : CS) (x0 : Nat) (x1 : Nat) (x2 : Int32) (cs9 : CS) (r9 : Int32), T.2.2.1 cs x0 x1 x2 = some (cs9, r9) → oaI l dC dI cB cI cJ cZ cS cO b K V fz yX4_joinSources (wsOf yX4_joinSources cX4_joinSources 8 (some .int)) (n + 7) [.ref (b + x0), .ref (b + x1), .int x2] cs cs9 r9) (hT_X4_runSource : ∀ (cs : CS) (x0 : Nat) (x1 : Nat) (x2 : Int32) (cs9 : CS) (r9 : Int32), T.2.2.2 cs x0 x1 x2 = some (cs9, r9) → oaI l dC dI cB cI cJ cZ cS cO b K V fz yX4_runSource (wsOf yX4_runSource cX4_runSource 5 (some .int)) (n + 7) [.ref (b + x0), .ref (b + x1), .int x2] cs cs9 r9) (cs : CS) (x0 : Nat) (x1 : Nat) (x2 : Int32) (cs9 : CS) (r9 : Int32) (hf : cb_X4_runSelect F T cs x0 x1 x2 = some (cs9, r9)) : oaI l dC dI cB cI cJ cZ cS cO b K V fz yX4_runSelect (wsOf yX4_runSelect cX4_runSelect 5 (some .int)) (n + 1 + 7) [.ref (b + x0), .ref (b + x1), .int x2] cs cs9 r9 := by
  obtain ⟨kb9, mb9⟩ := mo_cb_X4_runSelect F T (fun c_ x_0 x_1 x_2 z_ r_ h_ => (hT_X4_runQuery c_ x_0 x_1 x_2 z_ r_ h_).1) (fun c_ x_0 x_1 x_2 z_ r_ h_ => (hT_X4_runSelect c_ x_0 x_1 x_2 z_ r_ h_).1) (fun c_ x_0 x_1 x_2 z_ r_ h_ => (hT_X4_joinSources c_ x_0 x_1 x_2 z_ r_ h_).1) (fun c_ x_0 x_1 x_2 z_ r_ h_ => (hT_X4_runSource c_ x_0 x_1 x_2 z_ r_ h_).1) cs x0 x1 x2 cs9 r9 hf
  refine ⟨⟨kb9, mb9⟩, ?_⟩
  refine Met.ofW (cc := cX4_runSelect) (maxL := 5) (ret := (some .int)) (by decide) rfl ?_
  intro p e s m args below meth c s₁ B hml hv
  obtain ⟨rfl, hsz, hP, hK, hD0, hZ⟩ := hv
  have hx := B.exec
  have hb := B.bytes
  have hr := B.returns
  have hts := atoms_spec (ws := (wsOf yX4_runSelect cX4_runSelect 5 (some .int))) B.pre
  have hown : s.vm.findClass RX4 = some m.cls := findClass_of_methodNamed B.named
  have hlocks := B.notSynchronized
  have hD := hD0.self (sz := b + kK cs)
  generalize hAe : va_A (cW cB cI cJ cZ cS cO b cs) (b + kK cs) = A at hD hZ ⊢
  have hA : ∀ q : Nat, s.heap.size ≤ q → A q := fun q h => by rw [← hAe]; exact Or.inr (by omega)
  have hS : va_S A s.heap s.heap [] := va_S.rf
  have hG : va_S A s.heap s.heap [] := va_S.rf
  have hgz : s.heap.size = b + kK cs := hsz
  have hl := lv_entry ([.ref (b + x0), .ref (b + x1), .int x2]) (n := 5) (Nat.le_of_ble_eq_true rfl)
  rw [lg_entry_eq]
  generalize (lg_sl ([.ref (b + x0), .ref (b + x1), .int x2]) ++ List.replicate (5 - (lg_sl ([.ref (b + x0), .ref (b + x1), .int x2])).length) Slot.unset).toArray = ls at hl ⊢
  have hl : lv_has ls 5 [(0, .ref (b + x0)), (1, .ref (b + x1)), (2, .int x2)] := hl
  have B_124 : ∀ (cs1 : CS) (y0 : Int32), c_X4_runSelect_b124 F T cs1 y0 = some (cs9, r9) → kK cs ≤ kK cs1 → kM cs ≤ kM cs1 → ∀ (Gh H : Heap) (locs : List Loc) (ls : Array Slot), va_P (dC, dI) vwCl (cW cB cI cJ cZ cS cO b cs1) H → va_D A (cW cB cI cJ cZ cS cO b cs1) → va_S A s.heap Gh [] → Gh.size = b + kK cs1 → va_S A Gh H locs → lv_has ls 5 [] → W p l e (headSpec (wsOf yX4_runSelect cX4_runSelect 5 (some .int)) ({ frames := n + 1 + 7, cells := kK cs9 - kK cs, slots := kM cs9 - kM cs, locals := 60 * (n + 1 + 7) } : Room)).room s m ([.ref (b + x0), .ref (b + x1), .int x2] : List Value).toArray below meth c H locs (kK cs1 - kK cs) (kM cs1 - kM cs) (MQ below (va_Qi (fun (x : Int32) (_ : Unit) => x = r9) (fun _ t_ => va_P (dC, dI) vwCl (cW cB cI cJ cZ cS cO b cs9) t_.heap ∧ va_D A (cW cB cI cJ cZ cS cO b cs9) ∧ b + kK cs9 ≤ t_.heap.size) A) ([.ref (b + x0), .ref (b + x1), .int x2] : List Value).toArray s (kK cs9 - kK cs) (kM cs9 - kM cs) A) (F0 m 124 ls [.int y0]) := by
    intro cs1 y0 h hmk hmm Gh H locs ls hP hD hG hgz hS hl
    obtain ⟨kb9, mb9⟩ := mo_c_X4_runSelect_b124 F T (fun c_ x_0 x_1 x_2 z_ r_ h_ => (hT_X4_runQuery c_ x_0 x_1 x_2 z_ r_ h_).1) (fun c_ x_0 x_1 x_2 z_ r_ h_ => (hT_X4_runSelect c_ x_0 x_1 x_2 z_ r_ h_).1) (fun c_ x_0 x_1 x_2 z_ r_ h_ => (hT_X4_joinSources c_ x_0 x_1 x_2 z_ r_ h_).1) (fun c_ x_0 x_1 x_2 z_ r_ h_ => (hT_X4_runSource c_ x_0 x_1 x_2 z_ r_ h_).1) cs1 y0 cs9 r9 h
    unfold c_X4_runSelect_b124 at h
    obtain ⟨e1, e2⟩ := Prod.mk.inj (Option.some.inj h)
    rw [e1] at hP hD
    have e3 := congrArg kK e1
    have e4 := congrArg kM e1
    refine W_cnt (c2 := kK cs9 - kK cs) (n2 := kM cs9 - kM cs) (by omega) (by omega) ?_
    exact W.iret (v := y0) hx hb hr (fun t_ ht hW => ⟨⟨y0, (), rfl, e2, by rw [ht]; exact hP, hD, by rw [ht]; have := hS.1; omega⟩, (hG.comp hS).F ht⟩) (hG.comp hS).2.2 dX4_runSelect_124
  have B_108 : ∀ (cs1 : CS) (u0 : Nat) (u1 : Nat) (u2 : Int32) (u3 : Int32), c_X4_runSelect_b108 F T cs1 u0 u1 u2 u3 = some (cs9, r9) → kK cs ≤ kK cs1 → kM cs ≤ kM cs1 → ∀ (Gh H : Heap) (locs : List Loc) (ls : Array Slot), va_P (dC, dI) vwCl (cW cB cI cJ cZ cS cO b cs1) H → va_D A (cW cB cI cJ cZ cS cO b cs1) → va_S A s.heap Gh [] → Gh.size = b + kK cs1 → va_S A Gh H locs → lv_has ls 5 [(0, .ref (b + u0)), (1, .ref (b + u1)), (2, .int u2), (3, .int u3)] → W p l e (headSpec (wsOf yX4_runSelect cX4_runSelect 5 (some .int)) ({ frames := n + 1 + 7, cells := kK cs9 - kK cs, slots := kM cs9 - kM cs, locals := 60 * (n + 1 + 7) } : Room)).room s m ([.ref (b + x0), .ref (b + x1), .int x2] : List Value).toArray below meth c H locs (kK cs1 - kK cs) (kM cs1 - kM cs) (MQ below (va_Qi (fun (x : Int32) (_ : Unit) => x = r9) (fun _ t_ => va_P (dC, dI) vwCl (cW cB cI cJ cZ cS cO b cs9) t_.heap ∧ va_D A (cW cB cI cJ cZ cS cO b cs9) ∧ b + kK cs9 ≤ t_.heap.size) A) ([.ref (b + x0), .ref (b + x1), .int x2] : List Value).toArray s (kK cs9 - kK cs) (kM cs9 - kM cs) A) (F0 m 108 ls []) := by
    intro cs1 u0 u1 u2 u3 h hmk hmm Gh H locs ls hP hD hG hgz hS hl
    obtain ⟨kb9, mb9⟩ := mo_c_X4_runSelect_b108 F T (fun c_ x_0 x_1 x_2 z_ r_ h_ => (hT_X4_runQuery c_ x_0 x_1 x_2 z_ r_ h_).1) (fun c_ x_0 x_1 x_2 z_ r_ h_ => (hT_X4_runSelect c_ x_0 x_1 x_2 z_ r_ h_).1) (fun c_ x_0 x_1 x_2 z_ r_ h_ => (hT_X4_joinSources c_ x_0 x_1 x_2 z_ r_ h_).1) (fun c_ x_0 x_1 x_2 z_ r_ h_ => (hT_X4_runSource c_ x_0 x_1 x_2 z_ r_ h_).1) cs1 u0 u1 u2 u3 cs9 r9 h
    unfold c_X4_runSelect_b108 at h
    refine lv_aload_n hx hb dX4_runSelect_108 rfl (lv_at hl 0 rfl) ?_
    replace h := ob h; obtain ⟨v_1, hv_1, h⟩ := h
    refine fg_X4_19 hx hb hts hown hK hP hv_1 dX4_runSelect_109 ?_
    refine lv_iload_n hx hb dX4_runSelect_112 rfl (lv_at hl 2 rfl) ?_
    refine lv_iload_n hx hb dX4_runSelect_113 rfl (lv_at hl 3 rfl) ?_
    refine lv_aload_n hx hb dX4_runSelect_114 rfl (lv_at hl 1 rfl) ?_
    replace h := ob h; obtain ⟨v_2, hv_2, h⟩ := h
    refine fg_X4_162 hx hb hts hown hK hP hv_2 dX4_runSelect_115 ?_
    replace h := ob h; obtain ⟨i_3, hi_3, h⟩ := h
    subst hi_3
    replace h := ob h; obtain ⟨v_4, hv_4, h⟩ := h
    refine fg_X4_29 hx hb hts hown hK hP hv_4 dX4_runSelect_118 ?_
    replace h := ob h; obtain ⟨i_6, hi_6, h⟩ := h
    subst hi_6
    replace h := ob h; obtain ⟨w_7, hw_7, h⟩ := h
    replace h := ob h; obtain ⟨z_5, hv_5, h⟩ := h
    obtain ⟨qk_5, qm_5⟩ := mo_c_X8_once F cs1 i_6 u2 u3 v_4 z_5.1 z_5.2 hv_5
    obtain ⟨k9_5, m9_5⟩ := mo_c_X4_runSelect_b124 F T (fun c_ x_0 x_1 x_2 z_ r_ h_ => (hT_X4_runQuery c_ x_0 x_1 x_2 z_ r_ h_).1) (fun c_ x_0 x_1 x_2 z_ r_ h_ => (hT_X4_runSelect c_ x_0 x_1 x_2 z_ r_ h_).1) (fun c_ x_0 x_1 x_2 z_ r_ h_ => (hT_X4_joinSources c_ x_0 x_1 x_2 z_ r_ h_).1) (fun c_ x_0 x_1 x_2 z_ r_ h_ => (hT_X4_runSource c_ x_0 x_1 x_2 z_ r_ h_).1) z_5.1 z_5.2 cs9 r9 h
    refine cavI (As := [.int u2, .int u3, .int v_4]) hx hb hml hts hown hK hP hD hS hG hA (by omega) (by omega) hZ (X := 9) (by decide) rfl (ckE_some hw_7) (sa_X8_once l dC dI cB cI cJ cZ cS cO b K V fz F cs1 i_6 u2 u3 v_4 z_5.1 z_5.2 hv_5) (cw_X4_X8_once hts (fr := 5) (by show 5 + 1 ≤ n + 1 + 7; omega) (by show 8 + (8 + 11) + 60 * (5) ≤ 60 * (n + 1 + 7); omega)) rfl hl.1 (Nat.le_of_ble_eq_true rfl) ⟨by show kK cs1 - kK cs + (kK z_5.1 - kK cs1) ≤ kK cs9 - kK cs; omega, by show kM cs1 - kM cs + (kM z_5.1 - kM cs1) ≤ kM cs9 - kM cs; omega⟩ dX4_runSelect_121 (fun H locs hP hD hG hgz hS => ?_)
    refine W_cnt (c2 := kK z_5.1 - kK cs) (n2 := kM z_5.1 - kM cs) (by omega) (by omega) ?_
    exact B_124 z_5.1 z_5.2 h (by omega) (by omega) _ _ _ _ hP hD hG (by omega) hS (lv_sub hl [] rfl)
  have B_82 : ∀ (cs1 : CS) (u0 : Nat) (u1 : Nat) (u2 : Int32) (u3 : Int32), c_X4_runSelect_b82 F T cs1 u0 u1 u2 u3 = some (cs9, r9) → kK cs ≤ kK cs1 → kM cs ≤ kM cs1 → ∀ (Gh H : Heap) (locs : List Loc) (ls : Array Slot), va_P (dC, dI) vwCl (cW cB cI cJ cZ cS cO b cs1) H → va_D A (cW cB cI cJ cZ cS cO b cs1) → va_S A s.heap Gh [] → Gh.size = b + kK cs1 → va_S A Gh H locs → lv_has ls 5 [(0, .ref (b + u0)), (1, .ref (b + u1)), (2, .int u2), (3, .int u3)] → W p l e (headSpec (wsOf yX4_runSelect cX4_runSelect 5 (some .int)) ({ frames := n + 1 + 7, cells := kK cs9 - kK cs, slots := kM cs9 - kM cs, locals := 60 * (n + 1 + 7) } : Room)).room s m ([.ref (b + x0), .ref (b + x1), .int x2] : List Value).toArray below meth c H locs (kK cs1 - kK cs) (kM cs1 - kM cs) (MQ below (va_Qi (fun (x : Int32) (_ : Unit) => x = r9) (fun _ t_ => va_P (dC, dI) vwCl (cW cB cI cJ cZ cS cO b cs9) t_.heap ∧ va_D A (cW cB cI cJ cZ cS cO b cs9) ∧ b + kK cs9 ≤ t_.heap.size) A) ([.ref (b + x0), .ref (b + x1), .int x2] : List Value).toArray s (kK cs9 - kK cs) (kM cs9 - kM cs) A) (F0 m 82 ls []) := by
    intro cs1 u0 u1 u2 u3 h hmk hmm Gh H locs ls hP hD hG hgz hS hl
    obtain ⟨kb9, mb9⟩ := mo_c_X4_runSelect_b82 F T (fun c_ x_0 x_1 x_2 z_ r_ h_ => (hT_X4_runQuery c_ x_0 x_1 x_2 z_ r_ h_).1) (fun c_ x_0 x_1 x_2 z_ r_ h_ => (hT_X4_runSelect c_ x_0 x_1 x_2 z_ r_ h_).1) (fun c_ x_0 x_1 x_2 z_ r_ h_ => (hT_X4_joinSources c_ x_0 x_1 x_2 z_ r_ h_).1) (fun c_ x_0 x_1 x_2 z_ r_ h_ => (hT_X4_runSource c_ x_0 x_1 x_2 z_ r_ h_).1) cs1 u0 u1 u2 u3 cs9 r9 h
    unfold c_X4_runSelect_b82 at h
    refine lv_aload_n hx hb dX4_runSelect_82 rfl (lv_at hl 1 rfl) ?_
    replace h := ob h; obtain ⟨v_8, hv_8, h⟩ := h
    refine fg_X4_167 hx hb hts hown hK hP hv_8 dX4_runSelect_83 ?_
    refine lv_if_ne (tgt := 91) hx hb dX4_runSelect_86 (by decide) (fun c_9 => ?_) (fun c_9 => ?_)
    · skip
      replace h := (if_neg c_9).symm.trans h
      refine lv_aload_n hx hb dX4_runSelect_91 rfl (lv_at hl 0 rfl) ?_
      replace h := ob h; obtain ⟨v_10, hv_10, h⟩ := h
      refine fg_X4_19 hx hb hts hown hK hP hv_10 dX4_runSelect_92 ?_
      refine lv_iload_n hx hb dX4_runSelect_95 rfl (lv_at hl 2 rfl) ?_
      refine lv_iload_n hx hb dX4_runSelect_96 rfl (lv_at hl 3 rfl) ?_
      refine lv_aload_n hx hb dX4_runSelect_97 rfl (lv_at hl 1 rfl) ?_
      replace h := ob h; obtain ⟨v_11, hv_11, h⟩ := h
      refine fg_X4_162 hx hb hts hown hK hP hv_11 dX4_runSelect_98 ?_
      replace h := ob h; obtain ⟨i_12, hi_12, h⟩ := h
      subst hi_12
      replace h := ob h; obtain ⟨v_13, hv_13, h⟩ := h
      refine fg_X4_29 hx hb hts hown hK hP hv_13 dX4_runSelect_101 ?_
      refine lv_iconst (v := 0) hx hb dX4_runSelect_104 (by decide) ?_
      replace h := ob h; obtain ⟨i_15, hi_15, h⟩ := h
      subst hi_15
      replace h := ob h; obtain ⟨w_16, hw_16, h⟩ := h
      replace h := ob h; obtain ⟨cs_14, hv_14, h⟩ := h
      obtain ⟨qk_14, qm_14⟩ := mo_c_X8_sort F cs1 i_15 u2 u3 v_13 0 cs_14 hv_14
      obtain ⟨k9_14, m9_14⟩ := mo_c_X4_runSelect_b108 F T (fun c_ x_0 x_1 x_2 z_ r_ h_ => (hT_X4_runQuery c_ x_0 x_1 x_2 z_ r_ h_).1) (fun c_ x_0 x_1 x_2 z_ r_ h_ => (hT_X4_runSelect c_ x_0 x_1 x_2 z_ r_ h_).1) (fun c_ x_0 x_1 x_2 z_ r_ h_ => (hT_X4_joinSources c_ x_0 x_1 x_2 z_ r_ h_).1) (fun c_ x_0 x_1 x_2 z_ r_ h_ => (hT_X4_runSource c_ x_0 x_1 x_2 z_ r_ h_).1) cs_14 u0 u1 u2 u3 cs9 r9 h
      refine cavV (As := [.int u2, .int u3, .int v_13, .int 0]) hx hb hml hts hown hK hP hD hS hG hA (by omega) (by omega) hZ (X := 9) (by decide) rfl (ckE_some hw_16) (sa_X8_sort l dC dI cB cI cJ cZ cS cO b K V fz F cs1 i_15 u2 u3 v_13 0 cs_14 hv_14) (cw_X4_X8_sort hts (fr := 5) (by show 5 + 1 ≤ n + 1 + 7; omega) (by show 8 + (7 + 11) + 60 * (5) ≤ 60 * (n + 1 + 7); omega)) rfl hl.1 (Nat.le_of_ble_eq_true rfl) ⟨by show kK cs1 - kK cs + (kK cs_14 - kK cs1) ≤ kK cs9 - kK cs; omega, by show kM cs1 - kM cs + (kM cs_14 - kM cs1) ≤ kM cs9 - kM cs; omega⟩ dX4_runSelect_105 (fun H locs hP hD hG hgz hS => ?_)
      refine W_cnt (c2 := kK cs_14 - kK cs) (n2 := kM cs_14 - kM cs) (by omega) (by omega) ?_
      exact B_108 cs_14 u0 u1 u2 u3 h (by omega) (by omega) _ _ _ _ hP hD hG (by omega) hS (lv_sub hl [0, 1, 2, 3] rfl)
    · skip
      replace h := (if_pos c_9).symm.trans h
      refine lv_iload_n hx hb dX4_runSelect_89 rfl (lv_at hl 3 rfl) ?_
      obtain ⟨e1, e2⟩ := Prod.mk.inj (Option.some.inj h)
      rw [e1] at hP hD
      have e3 := congrArg kK e1
      have e4 := congrArg kM e1
      refine W_cnt (c2 := kK cs9 - kK cs) (n2 := kM cs9 - kM cs) (by omega) (by omega) ?_
      exact W.iret (v := u3) hx hb hr (fun t_ ht hW => ⟨⟨u3, (), rfl, e2, by rw [ht]; exact hP, hD, by rw [ht]; have := hS.1; omega⟩, (hG.comp hS).F ht⟩) (hG.comp hS).2.2 dX4_runSelect_90
  have B_69 : ∀ (cs1 : CS) (u0 : Nat) (u1 : Nat) (u2 : Int32) (u4 : Int32) (y0 : Int32), c_X4_runSelect_b69 F T cs1 u0 u1 u2 u4 y0 = some (cs9, r9) → kK cs ≤ kK cs1 → kM cs ≤ kM cs1 → ∀ (Gh H : Heap) (locs : List Loc) (ls : Array Slot), va_P (dC, dI) vwCl (cW cB cI cJ cZ cS cO b cs1) H → va_D A (cW cB cI cJ cZ cS cO b cs1) → va_S A s.heap Gh [] → Gh.size = b + kK cs1 → va_S A Gh H locs → lv_has ls 5 [(0, .ref (b + u0)), (1, .ref (b + u1)), (2, .int u2), (4, .int u4)] → W p l e (headSpec (wsOf yX4_runSelect cX4_runSelect 5 (some .int)) ({ frames := n + 1 + 7, cells := kK cs9 - kK cs, slots := kM cs9 - kM cs, locals := 60 * (n + 1 + 7) } : Room)).room s m ([.ref (b + x0), .ref (b + x1), .int x2] : List Value).toArray below meth c H locs (kK cs1 - kK cs) (kM cs1 - kM cs) (MQ below (va_Qi (fun (x : Int32) (_ : Unit) => x = r9) (fun _ t_ => va_P (dC, dI) vwCl (cW cB cI cJ cZ cS cO b cs9) t_.heap ∧ va_D A (cW cB cI cJ cZ cS cO b cs9) ∧ b + kK cs9 ≤ t_.heap.size) A) ([.ref (b + x0), .ref (b + x1), .int x2] : List Value).toArray s (kK cs9 - kK cs) (kM cs9 - kM cs) A) (F0 m 69 ls [.int y0]) := by
    intro cs1 u0 u1 u2 u4 y0 h hmk hmm Gh H locs ls hP hD hG hgz hS hl
    obtain ⟨kb9, mb9⟩ := mo_c_X4_runSelect_b69 F T (fun c_ x_0 x_1 x_2 z_ r_ h_ => (hT_X4_runQuery c_ x_0 x_1 x_2 z_ r_ h_).1) (fun c_ x_0 x_1 x_2 z_ r_ h_ => (hT_X4_runSelect c_ x_0 x_1 x_2 z_ r_ h_).1) (fun c_ x_0 x_1 x_2 z_ r_ h_ => (hT_X4_joinSources c_ x_0 x_1 x_2 z_ r_ h_).1) (fun c_ x_0 x_1 x_2 z_ r_ h_ => (hT_X4_runSource c_ x_0 x_1 x_2 z_ r_ h_).1) cs1 u0 u1 u2 u4 y0 cs9 r9 h
    unfold c_X4_runSelect_b69 at h
    refine lv_istore_n (lv' := [(3, .int y0), (0, .ref (b + u0)), (1, .ref (b + u1)), (2, .int u2), (4, .int u4)]) hx hb dX4_runSelect_69 rfl hl (by decide) rfl (fun ls hl => ?_)
    refine lv_aload_n hx hb dX4_runSelect_70 rfl (lv_at hl 1 rfl) ?_
    refine lv_aload_n hx hb dX4_runSelect_71 rfl (lv_at hl 2 rfl) ?_
    replace h := ob h; obtain ⟨v_17, hv_17, h⟩ := h
    refine fg_X4_162 hx hb hts hown hK hP hv_17 dX4_runSelect_72 ?_
    refine lv_iload_n hx hb dX4_runSelect_75 rfl (lv_at hl 3 rfl) ?_
    refine lv_iload_n hx hb dX4_runSelect_76 rfl (lv_at hl 0 rfl) ?_
    refine lv_iload hx hb dX4_runSelect_77 (lv_at hl 4 rfl) ?_
    replace h := ob h; obtain ⟨i_18, hi_18, h⟩ := h
    subst hi_18
    replace h := ob h; obtain ⟨w_20, hw_20, h⟩ := h
    replace h := ob h; obtain ⟨cs_19, hv_19, h⟩ := h
    obtain ⟨qk_19, qm_19⟩ := mo_c_X4_project F cs1 u0 i_18 u2 y0 u4 cs_19 hv_19
    obtain ⟨k9_19, m9_19⟩ := mo_c_X4_runSelect_b82 F T (fun c_ x_0 x_1 x_2 z_ r_ h_ => (hT_X4_runQuery c_ x_0 x_1 x_2 z_ r_ h_).1) (fun c_ x_0 x_1 x_2 z_ r_ h_ => (hT_X4_runSelect c_ x_0 x_1 x_2 z_ r_ h_).1) (fun c_ x_0 x_1 x_2 z_ r_ h_ => (hT_X4_joinSources c_ x_0 x_1 x_2 z_ r_ h_).1) (fun c_ x_0 x_1 x_2 z_ r_ h_ => (hT_X4_runSource c_ x_0 x_1 x_2 z_ r_ h_).1) cs_19 u0 u1 u2 y0 cs9 r9 h
    refine cavV (As := [.ref (b + i_18), .int u2, .int y0, .int u4]) hx hb hml hts hown hK hP hD hS hG hA (by omega) (by omega) hZ (X := 5) (by decide) rfl (ckE_some hw_20) (sa_X4_project l dC dI cB cI cJ cZ cS cO b K V fz F cs1 u0 i_18 u2 y0 u4 cs_19 hv_19) (cw_X4_X4_project hts (fr := 6) (by show 6 + 1 ≤ n + 1 + 7; omega) (by show 8 + (7 + 11) + 60 * (6) ≤ 60 * (n + 1 + 7); omega)) rfl hl.1 (Nat.le_of_ble_eq_true rfl) ⟨by show kK cs1 - kK cs + (kK cs_19 - kK cs1) ≤ kK cs9 - kK cs; omega, by show kM cs1 - kM cs + (kM cs_19 - kM cs1) ≤ kM cs9 - kM cs; omega⟩ dX4_runSelect_79 (fun H locs hP hD hG hgz hS => ?_)
    refine W_cnt (c2 := kK cs_19 - kK cs) (n2 := kM cs_19 - kM cs) (by omega) (by omega) ?_
    exact B_82 cs_19 u0 u1 u2 y0 h (by omega) (by omega) _ _ _ _ hP hD hG (by omega) hS (lv_sub hl [1, 2, 3, 0] rfl)
  have B_57 : ∀ (cs1 : CS) (u0 : Nat) (u1 : Nat) (u2 : Int32) (u3 : Int32) (u4 : Int32), c_X4_runSelect_b57 F T cs1 u0 u1 u2 u3 u4 = some (cs9, r9) → kK cs ≤ kK cs1 → kM cs ≤ kM cs1 → ∀ (Gh H : Heap) (locs : List Loc) (ls : Array Slot), va_P (dC, dI) vwCl (cW cB cI cJ cZ cS cO b cs1) H → va_D A (cW cB cI cJ cZ cS cO b cs1) → va_S A s.heap Gh [] → Gh.size = b + kK cs1 → va_S A Gh H locs → lv_has ls 5 [(0, .ref (b + u0)), (1, .ref (b + u1)), (2, .int u2), (3, .int u3), (4, .int u4)] → W p l e (headSpec (wsOf yX4_runSelect cX4_runSelect 5 (some .int)) ({ frames := n + 1 + 7, cells := kK cs9 - kK cs, slots := kM cs9 - kM cs, locals := 60 * (n + 1 + 7) } : Room)).room s m ([.ref (b + x0), .ref (b + x1), .int x2] : List Value).toArray below meth c H locs (kK cs1 - kK cs) (kM cs1 - kM cs) (MQ below (va_Qi (fun (x : Int32) (_ : Unit) => x = r9) (fun _ t_ => va_P (dC, dI) vwCl (cW cB cI cJ cZ cS cO b cs9) t_.heap ∧ va_D A (cW cB cI cJ cZ cS cO b cs9) ∧ b + kK cs9 ≤ t_.heap.size) A) ([.ref (b + x0), .ref (b + x1), .int x2] : List Value).toArray s (kK cs9 - kK cs) (kM cs9 - kM cs) A) (F0 m 57 ls []) := by
    intro cs1 u0 u1 u2 u3 u4 h hmk hmm Gh H locs ls hP hD hG hgz hS hl
    obtain ⟨kb9, mb9⟩ := mo_c_X4_runSelect_b57 F T (fun c_ x_0 x_1 x_2 z_ r_ h_ => (hT_X4_runQuery c_ x_0 x_1 x_2 z_ r_ h_).1) (fun c_ x_0 x_1 x_2 z_ r_ h_ => (hT_X4_runSelect c_ x_0 x_1 x_2 z_ r_ h_).1) (fun c_ x_0 x_1 x_2 z_ r_ h_ => (hT_X4_joinSources c_ x_0 x_1 x_2 z_ r_ h_).1) (fun c_ x_0 x_1 x_2 z_ r_ h_ => (hT_X4_runSource c_ x_0 x_1 x_2 z_ r_ h_).1) cs1 u0 u1 u2 u3 u4 cs9 r9 h
    unfold c_X4_runSelect_b57 at h
    refine lv_aload_n hx hb dX4_runSelect_57 rfl (lv_at hl 0 rfl) ?_
    refine lv_aload_n hx hb dX4_runSelect_58 rfl (lv_at hl 1 rfl) ?_
    replace h := ob h; obtain ⟨v_21, hv_21, h⟩ := h
    refine fg_X4_159 hx hb hts hown hK hP hv_21 dX4_runSelect_59 ?_
    refine lv_iload_n hx hb dX4_runSelect_62 rfl (lv_at hl 2 rfl) ?_
    refine lv_iload_n hx hb dX4_runSelect_63 rfl (lv_at hl 3 rfl) ?_
    refine lv_iload hx hb dX4_runSelect_64 (lv_at hl 4 rfl) ?_
    replace h := ob h; obtain ⟨w_23, hw_23, h⟩ := h
    replace h := ob h; obtain ⟨z_22, hv_22, h⟩ := h
    obtain ⟨qk_22, qm_22⟩ := mo_c_X4_filter F cs1 u0 v_21 u2 u3 u4 z_22.1 z_22.2 hv_22
    obtain ⟨k9_22, m9_22⟩ := mo_c_X4_runSelect_b69 F T (fun c_ x_0 x_1 x_2 z_ r_ h_ => (hT_X4_runQuery c_ x_0 x_1 x_2 z_ r_ h_).1) (fun c_ x_0 x_1 x_2 z_ r_ h_ => (hT_X4_runSelect c_ x_0 x_1 x_2 z_ r_ h_).1) (fun c_ x_0 x_1 x_2 z_ r_ h_ => (hT_X4_joinSources c_ x_0 x_1 x_2 z_ r_ h_).1) (fun c_ x_0 x_1 x_2 z_ r_ h_ => (hT_X4_runSource c_ x_0 x_1 x_2 z_ r_ h_).1) z_22.1 u0 u1 u2 u4 z_22.2 cs9 r9 h
    refine cavI (As := [.int v_21, .int u2, .int u3, .int u4]) hx hb hml hts hown hK hP hD hS hG hA (by omega) (by omega) hZ (X := 5) (by decide) rfl (ckE_some hw_23) (sa_X4_filter l dC dI cB cI cJ cZ cS cO b K V fz F cs1 u0 v_21 u2 u3 u4 z_22.1 z_22.2 hv_22) (cw_X4_X4_filter hts (fr := 5) (by show 5 + 1 ≤ n + 1 + 7; omega) (by show 8 + (7 + 11) + 60 * (5) ≤ 60 * (n + 1 + 7); omega)) rfl hl.1 (Nat.le_of_ble_eq_true rfl) ⟨by show kK cs1 - kK cs + (kK z_22.1 - kK cs1) ≤ kK cs9 - kK cs; omega, by show kM cs1 - kM cs + (kM z_22.1 - kM cs1) ≤ kM cs9 - kM cs; omega⟩ dX4_runSelect_66 (fun H locs hP hD hG hgz hS => ?_)
    refine W_cnt (c2 := kK z_22.1 - kK cs) (n2 := kM z_22.1 - kM cs) (by omega) (by omega) ?_
    exact B_69 z_22.1 u0 u1 u2 u4 z_22.2 h (by omega) (by omega) _ _ _ _ hP hD hG (by omega) hS (lv_sub hl [0, 1, 2, 4] rfl)
  have B_42 : ∀ (cs1 : CS) (u0 : Nat) (u1 : Nat) (u2 : Int32) (y0 : Int32), c_X4_runSelect_b42 F T cs1 u0 u1 u2 y0 = some (cs9, r9) → kK cs ≤ kK cs1 → kM cs ≤ kM cs1 → ∀ (Gh H : Heap) (locs : List Loc) (ls : Array Slot), va_P (dC, dI) vwCl (cW cB cI cJ cZ cS cO b cs1) H → va_D A (cW cB cI cJ cZ cS cO b cs1) → va_S A s.heap Gh [] → Gh.size = b + kK cs1 → va_S A Gh H locs → lv_has ls 5 [(0, .ref (b + u0)), (1, .ref (b + u1)), (2, .int u2)] → W p l e (headSpec (wsOf yX4_runSelect cX4_runSelect 5 (some .int)) ({ frames := n + 1 + 7, cells := kK cs9 - kK cs, slots := kM cs9 - kM cs, locals := 60 * (n + 1 + 7) } : Room)).room s m ([.ref (b + x0), .ref (b + x1), .int x2] : List Value).toArray below meth c H locs (kK cs1 - kK cs) (kM cs1 - kM cs) (MQ below (va_Qi (fun (x : Int32) (_ : Unit) => x = r9) (fun _ t_ => va_P (dC, dI) vwCl (cW cB cI cJ cZ cS cO b cs9) t_.heap ∧ va_D A (cW cB cI cJ cZ cS cO b cs9) ∧ b + kK cs9 ≤ t_.heap.size) A) ([.ref (b + x0), .ref (b + x1), .int x2] : List Value).toArray s (kK cs9 - kK cs) (kM cs9 - kM cs) A) (F0 m 42 ls [.int y0]) := by
    intro cs1 u0 u1 u2 y0 h hmk hmm Gh H locs ls hP hD hG hgz hS hl
    obtain ⟨kb9, mb9⟩ := mo_c_X4_runSelect_b42 F T (fun c_ x_0 x_1 x_2 z_ r_ h_ => (hT_X4_runQuery c_ x_0 x_1 x_2 z_ r_ h_).1) (fun c_ x_0 x_1 x_2 z_ r_ h_ => (hT_X4_runSelect c_ x_0 x_1 x_2 z_ r_ h_).1) (fun c_ x_0 x_1 x_2 z_ r_ h_ => (hT_X4_joinSources c_ x_0 x_1 x_2 z_ r_ h_).1) (fun c_ x_0 x_1 x_2 z_ r_ h_ => (hT_X4_runSource c_ x_0 x_1 x_2 z_ r_ h_).1) cs1 u0 u1 u2 y0 cs9 r9 h
    unfold c_X4_runSelect_b42 at h
    refine lv_istore_n (lv' := [(3, .int y0), (0, .ref (b + u0)), (1, .ref (b + u1)), (2, .int u2)]) hx hb dX4_runSelect_42 rfl hl (by decide) rfl (fun ls hl => ?_)
    refine lv_aload_n hx hb dX4_runSelect_43 rfl (lv_at hl 2 rfl) ?_
    replace h := ob h; obtain ⟨v_24, hv_24, h⟩ := h
    refine fg_X4_153 hx hb hts hown hK hP hv_24 dX4_runSelect_44 ?_
    replace h := ob h; obtain ⟨i_25, hi_25, h⟩ := h
    subst hi_25
    replace h := ob h; obtain ⟨v_26, hv_26, h⟩ := h
    refine fg_X4_29 hx hb hts hown hK hP hv_26 dX4_runSelect_47 ?_
    refine lv_aload_n hx hb dX4_runSelect_50 rfl (lv_at hl 2 rfl) ?_
    replace h := ob h; obtain ⟨v_27, hv_27, h⟩ := h
    refine fg_X4_156 hx hb hts hown hK hP hv_27 dX4_runSelect_51 ?_
    refine lv_iadd hx hb dX4_runSelect_54 ?_
    refine lv_istore (lv' := [(4, .int (v_26 + v_27)), (3, .int y0), (0, .ref (b + u0)), (1, .ref (b + u1)), (2, .int u2)]) hx hb dX4_runSelect_55 hl (by decide) rfl (fun ls hl => ?_)
    refine W_cnt (c2 := kK cs1 - kK cs) (n2 := kM cs1 - kM cs) (by omega) (by omega) ?_
    exact B_57 cs1 u0 u1 u2 y0 (v_26 + v_27) h (by omega) (by omega) _ _ _ _ hP hD hG (by omega) hS (lv_sub hl [2, 3, 4, 1, 0] rfl)
  have B_25 : ∀ (cs1 : CS) (u0 : Nat) (u1 : Nat) (u2 : Int32) (u4 : Int32) (y0 : Int32), c_X4_runSelect_b25 F T cs1 u0 u1 u2 u4 y0 = some (cs9, r9) → kK cs ≤ kK cs1 → kM cs ≤ kM cs1 → ∀ (Gh H : Heap) (locs : List Loc) (ls : Array Slot), va_P (dC, dI) vwCl (cW cB cI cJ cZ cS cO b cs1) H → va_D A (cW cB cI cJ cZ cS cO b cs1) → va_S A s.heap Gh [] → Gh.size = b + kK cs1 → va_S A Gh H locs → lv_has ls 5 [(0, .ref (b + u0)), (1, .ref (b + u1)), (2, .int u2), (4, .int u4)] → W p l e (headSpec (wsOf yX4_runSelect cX4_runSelect 5 (some .int)) ({ frames := n + 1 + 7, cells := kK cs9 - kK cs, slots := kM cs9 - kM cs, locals := 60 * (n + 1 + 7) } : Room)).room s m ([.ref (b + x0), .ref (b + x1), .int x2] : List Value).toArray below meth c H locs (kK cs1 - kK cs) (kM cs1 - kM cs) (MQ below (va_Qi (fun (x : Int32) (_ : Unit) => x = r9) (fun _ t_ => va_P (dC, dI) vwCl (cW cB cI cJ cZ cS cO b cs9) t_.heap ∧ va_D A (cW cB cI cJ cZ cS cO b cs9) ∧ b + kK cs9 ≤ t_.heap.size) A) ([.ref (b + x0), .ref (b + x1), .int x2] : List Value).toArray s (kK cs9 - kK cs) (kM cs9 - kM cs) A) (F0 m 25 ls [.int y0]) := by
    intro cs1 u0 u1 u2 u4 y0 h hmk hmm Gh H locs ls hP hD hG hgz hS hl
    obtain ⟨kb9, mb9⟩ := mo_c_X4_runSelect_b25 F T (fun c_ x_0 x_1 x_2 z_ r_ h_ => (hT_X4_runQuery c_ x_0 x_1 x_2 z_ r_ h_).1) (fun c_ x_0 x_1 x_2 z_ r_ h_ => (hT_X4_runSelect c_ x_0 x_1 x_2 z_ r_ h_).1) (fun c_ x_0 x_1 x_2 z_ r_ h_ => (hT_X4_joinSources c_ x_0 x_1 x_2 z_ r_ h_).1) (fun c_ x_0 x_1 x_2 z_ r_ h_ => (hT_X4_runSource c_ x_0 x_1 x_2 z_ r_ h_).1) cs1 u0 u1 u2 u4 y0 cs9 r9 h
    unfold c_X4_runSelect_b25 at h
    refine lv_istore_n (lv' := [(3, .int y0), (0, .ref (b + u0)), (1, .ref (b + u1)), (2, .int u2), (4, .int u4)]) hx hb dX4_runSelect_25 rfl hl (by decide) rfl (fun ls hl => ?_)
    refine lv_aload_n hx hb dX4_runSelect_26 rfl (lv_at hl 2 rfl) ?_
    replace h := ob h; obtain ⟨w_29, hw_29, h⟩ := h
    replace h := ob h; obtain ⟨v_28, hv_28, h⟩ := h
    refine cbvI (As := []) hx hb hml hts hown hK hP hD hS hG hA (by omega) (by omega) hZ (X := 6) (by decide) rfl (ckE_some hw_29) (sc_X5_isGrouped l dC dI cB cI cJ cZ cS cO b K V fz F cs1 u1 v_28 hv_28) (cw_X4_X5_isGrouped hts (fr := 0) (by show 0 + 1 ≤ n + 1 + 7; omega) (by show 8 + (1 + 11) + 60 * (0) ≤ 60 * (n + 1 + 7); omega)) rfl hl.1 (Nat.le_of_ble_eq_true rfl) ⟨by show kK cs1 - kK cs ≤ kK cs9 - kK cs; omega, by show kM cs1 - kM cs ≤ kM cs9 - kM cs; omega⟩ dX4_runSelect_27 (fun H locs hP hD hG hgz hS => ?_)
    refine lv_if_eq (tgt := 57) hx hb dX4_runSelect_30 (by decide) (fun c_30 => ?_) (fun c_30 => ?_)
    · skip
      replace h := (if_pos c_30).symm.trans h
      refine W_cnt (c2 := kK cs1 - kK cs) (n2 := kM cs1 - kM cs) (by omega) (by omega) ?_
      exact B_57 cs1 u0 u1 u2 y0 u4 h (by omega) (by omega) _ _ _ _ hP hD hG (by omega) hS (lv_sub hl [1, 2, 3, 0, 4] rfl)
    · skip
      replace h := (if_neg c_30).symm.trans h
      refine lv_aload_n hx hb dX4_runSelect_33 rfl (lv_at hl 1 rfl) ?_
      refine lv_aload_n hx hb dX4_runSelect_34 rfl (lv_at hl 2 rfl) ?_
      refine lv_iload_n hx hb dX4_runSelect_35 rfl (lv_at hl 3 rfl) ?_
      refine lv_iload_n hx hb dX4_runSelect_36 rfl (lv_at hl 0 rfl) ?_
      refine lv_iload hx hb dX4_runSelect_37 (lv_at hl 4 rfl) ?_
      replace h := ob h; obtain ⟨w_32, hw_32, h⟩ := h
      replace h := ob h; obtain ⟨z_31, hv_31, h⟩ := h
      obtain ⟨qk_31, qm_31⟩ := mo_c_X4_group F cs1 u0 u1 u2 y0 u4 z_31.1 z_31.2 hv_31
      obtain ⟨k9_31, m9_31⟩ := mo_c_X4_runSelect_b42 F T (fun c_ x_0 x_1 x_2 z_ r_ h_ => (hT_X4_runQuery c_ x_0 x_1 x_2 z_ r_ h_).1) (fun c_ x_0 x_1 x_2 z_ r_ h_ => (hT_X4_runSelect c_ x_0 x_1 x_2 z_ r_ h_).1) (fun c_ x_0 x_1 x_2 z_ r_ h_ => (hT_X4_joinSources c_ x_0 x_1 x_2 z_ r_ h_).1) (fun c_ x_0 x_1 x_2 z_ r_ h_ => (hT_X4_runSource c_ x_0 x_1 x_2 z_ r_ h_).1) z_31.1 u0 u1 u2 z_31.2 cs9 r9 h
      refine cavI (As := [.ref (b + u1), .int u2, .int y0, .int u4]) hx hb hml hts hown hK hP hD hS hG hA (by omega) (by omega) hZ (X := 5) (by decide) rfl (ckE_some hw_32) (sa_X4_group l dC dI cB cI cJ cZ cS cO b K V fz F cs1 u0 u1 u2 y0 u4 z_31.1 z_31.2 hv_31) (cw_X4_X4_group hts (fr := 6) (by show 6 + 1 ≤ n + 1 + 7; omega) (by show 8 + (13 + 11) + 60 * (6) ≤ 60 * (n + 1 + 7); omega)) rfl hl.1 (Nat.le_of_ble_eq_true rfl) ⟨by show kK cs1 - kK cs + (kK z_31.1 - kK cs1) ≤ kK cs9 - kK cs; omega, by show kM cs1 - kM cs + (kM z_31.1 - kM cs1) ≤ kM cs9 - kM cs; omega⟩ dX4_runSelect_39 (fun H locs hP hD hG hgz hS => ?_)
      refine W_cnt (c2 := kK z_31.1 - kK cs) (n2 := kM z_31.1 - kM cs) (by omega) (by omega) ?_
      exact B_42 z_31.1 u0 u1 u2 z_31.2 h (by omega) (by omega) _ _ _ _ hP hD hG (by omega) hS (lv_sub hl [1, 2, 3] rfl)
  have B_6 : ∀ (cs1 : CS) (u0 : Nat) (u1 : Nat) (u2 : Int32) (y0 : Int32), c_X4_runSelect_b6 F T cs1 u0 u1 u2 y0 = some (cs9, r9) → kK cs ≤ kK cs1 → kM cs ≤ kM cs1 → ∀ (Gh H : Heap) (locs : List Loc) (ls : Array Slot), va_P (dC, dI) vwCl (cW cB cI cJ cZ cS cO b cs1) H → va_D A (cW cB cI cJ cZ cS cO b cs1) → va_S A s.heap Gh [] → Gh.size = b + kK cs1 → va_S A Gh H locs → lv_has ls 5 [(0, .ref (b + u0)), (1, .ref (b + u1)), (2, .int u2)] → W p l e (headSpec (wsOf yX4_runSelect cX4_runSelect 5 (some .int)) ({ frames := n + 1 + 7, cells := kK cs9 - kK cs, slots := kM cs9 - kM cs, locals := 60 * (n + 1 + 7) } : Room)).room s m ([.ref (b + x0), .ref (b + x1), .int x2] : List Value).toArray below meth c H locs (kK cs1 - kK cs) (kM cs1 - kM cs) (MQ below (va_Qi (fun (x : Int32) (_ : Unit) => x = r9) (fun _ t_ => va_P (dC, dI) vwCl (cW cB cI cJ cZ cS cO b cs9) t_.heap ∧ va_D A (cW cB cI cJ cZ cS cO b cs9) ∧ b + kK cs9 ≤ t_.heap.size) A) ([.ref (b + x0), .ref (b + x1), .int x2] : List Value).toArray s (kK cs9 - kK cs) (kM cs9 - kM cs) A) (F0 m 6 ls [.int y0]) := by
    intro cs1 u0 u1 u2 y0 h hmk hmm Gh H locs ls hP hD hG hgz hS hl
    obtain ⟨kb9, mb9⟩ := mo_c_X4_runSelect_b6 F T (fun c_ x_0 x_1 x_2 z_ r_ h_ => (hT_X4_runQuery c_ x_0 x_1 x_2 z_ r_ h_).1) (fun c_ x_0 x_1 x_2 z_ r_ h_ => (hT_X4_runSelect c_ x_0 x_1 x_2 z_ r_ h_).1) (fun c_ x_0 x_1 x_2 z_ r_ h_ => (hT_X4_joinSources c_ x_0 x_1 x_2 z_ r_ h_).1) (fun c_ x_0 x_1 x_2 z_ r_ h_ => (hT_X4_runSource c_ x_0 x_1 x_2 z_ r_ h_).1) cs1 u0 u1 u2 y0 cs9 r9 h
    unfold c_X4_runSelect_b6 at h
    refine lv_istore_n (lv' := [(3, .int y0), (0, .ref (b + u0)), (1, .ref (b + u1)), (2, .int u2)]) hx hb dX4_runSelect_6 rfl hl (by decide) rfl (fun ls hl => ?_)
    refine lv_aload_n hx hb dX4_runSelect_7 rfl (lv_at hl 2 rfl) ?_
    replace h := ob h; obtain ⟨w_34, hw_34, h⟩ := h
    replace h := ob h; obtain ⟨v_33, hv_33, h⟩ := h
    refine cbvI (As := []) hx hb hml hts hown hK hP hD hS hG hA (by omega) (by omega) hZ (X := 6) (by decide) rfl (ckE_some hw_34) (sc_X5_joinedWidth l dC dI cB cI cJ cZ cS cO b K V fz F cs1 u1 v_33 hv_33) (cw_X4_X5_joinedWidth hts (fr := 0) (by show 0 + 1 ≤ n + 1 + 7; omega) (by show 8 + (3 + 11) + 60 * (0) ≤ 60 * (n + 1 + 7); omega)) rfl hl.1 (Nat.le_of_ble_eq_true rfl) ⟨by show kK cs1 - kK cs ≤ kK cs9 - kK cs; omega, by show kM cs1 - kM cs ≤ kM cs9 - kM cs; omega⟩ dX4_runSelect_8 (fun H locs hP hD hG hgz hS => ?_)
    refine lv_istore (lv' := [(4, .int v_33), (3, .int y0), (0, .ref (b + u0)), (1, .ref (b + u1)), (2, .int u2)]) hx hb dX4_runSelect_11 hl (by decide) rfl (fun ls hl => ?_)
    refine lv_aload_n hx hb dX4_runSelect_13 rfl (lv_at hl 2 rfl) ?_
    refine lv_aload_n hx hb dX4_runSelect_14 rfl (lv_at hl 3 rfl) ?_
    replace h := ob h; obtain ⟨v_35, hv_35, h⟩ := h
    refine fg_X4_138 hx hb hts hown hK hP hv_35 dX4_runSelect_15 ?_
    refine lv_iload_n hx hb dX4_runSelect_18 rfl (lv_at hl 4 rfl) ?_
    refine lv_iload_n hx hb dX4_runSelect_19 rfl (lv_at hl 1 rfl) ?_
    refine lv_iload hx hb dX4_runSelect_20 (lv_at hl 0 rfl) ?_
    replace h := ob h; obtain ⟨w_37, hw_37, h⟩ := h
    replace h := ob h; obtain ⟨z_36, hv_36, h⟩ := h
    obtain ⟨qk_36, qm_36⟩ := mo_c_X4_filter F cs1 u0 v_35 u2 y0 v_33 z_36.1 z_36.2 hv_36
    obtain ⟨k9_36, m9_36⟩ := mo_c_X4_runSelect_b25 F T (fun c_ x_0 x_1 x_2 z_ r_ h_ => (hT_X4_runQuery c_ x_0 x_1 x_2 z_ r_ h_).1) (fun c_ x_0 x_1 x_2 z_ r_ h_ => (hT_X4_runSelect c_ x_0 x_1 x_2 z_ r_ h_).1) (fun c_ x_0 x_1 x_2 z_ r_ h_ => (hT_X4_joinSources c_ x_0 x_1 x_2 z_ r_ h_).1) (fun c_ x_0 x_1 x_2 z_ r_ h_ => (hT_X4_runSource c_ x_0 x_1 x_2 z_ r_ h_).1) z_36.1 u0 u1 u2 v_33 z_36.2 cs9 r9 h
    refine cavI (As := [.int v_35, .int u2, .int y0, .int v_33]) hx hb hml hts hown hK hP hD hS hG hA (by omega) (by omega) hZ (X := 5) (by decide) rfl (ckE_some hw_37) (sa_X4_filter l dC dI cB cI cJ cZ cS cO b K V fz F cs1 u0 v_35 u2 y0 v_33 z_36.1 z_36.2 hv_36) (cw_X4_X4_filter hts (fr := 5) (by show 5 + 1 ≤ n + 1 + 7; omega) (by show 8 + (7 + 11) + 60 * (5) ≤ 60 * (n + 1 + 7); omega)) rfl hl.1 (Nat.le_of_ble_eq_true rfl) ⟨by show kK cs1 - kK cs + (kK z_36.1 - kK cs1) ≤ kK cs9 - kK cs; omega, by show kM cs1 - kM cs + (kM z_36.1 - kM cs1) ≤ kM cs9 - kM cs; omega⟩ dX4_runSelect_22 (fun H locs hP hD hG hgz hS => ?_)
    refine W_cnt (c2 := kK z_36.1 - kK cs) (n2 := kM z_36.1 - kM cs) (by omega) (by omega) ?_
    exact B_25 z_36.1 u0 u1 u2 v_33 z_36.2 h (by omega) (by omega) _ _ _ _ hP hD hG (by omega) hS (lv_sub hl [2, 3, 4, 0] rfl)
  have h := hf
  unfold cb_X4_runSelect at h
  refine W_cnt (c2 := kK cs - kK cs) (n2 := kM cs - kM cs) (by omega) (by omega) ?_
  refine lv_aload_n hx hb dX4_runSelect_0 rfl (lv_at hl 0 rfl) ?_
  refine lv_aload_n hx hb dX4_runSelect_1 rfl (lv_at hl 1 rfl) ?_
  refine lv_iload_n hx hb dX4_runSelect_2 rfl (lv_at hl 2 rfl) ?_
  replace h := ob h; obtain ⟨w_39, hw_39, h⟩ := h
  replace h := ob h; obtain ⟨z_38, hv_38, h⟩ := h
  obtain ⟨qk_38, qm_38⟩ := (hT_X4_joinSources cs x0 x1 x2 z_38.1 z_38.2 hv_38).1
  obtain ⟨k9_38, m9_38⟩ := mo_c_X4_runSelect_b6 F T (fun c_ x_0 x_1 x_2 z_ r_ h_ => (hT_X4_runQuery c_ x_0 x_1 x_2 z_ r_ h_).1) (fun c_ x_0 x_1 x_2 z_ r_ h_ => (hT_X4_runSelect c_ x_0 x_1 x_2 z_ r_ h_).1) (fun c_ x_0 x_1 x_2 z_ r_ h_ => (hT_X4_joinSources c_ x_0 x_1 x_2 z_ r_ h_).1) (fun c_ x_0 x_1 x_2 z_ r_ h_ => (hT_X4_runSource c_ x_0 x_1 x_2 z_ r_ h_).1) z_38.1 x0 x1 x2 z_38.2 cs9 r9 h
  refine cavI (As := [.ref (b + x1), .int x2]) hx hb hml hts hown hK hP hD hS hG hA (by omega) (by omega) hZ (X := 5) (by decide) rfl (ckE_some hw_39) (hT_X4_joinSources cs x0 x1 x2 z_38.1 z_38.2 hv_38) (cw_X4_X4_joinSources hts (fr := n + 7) (by show n + 7 + 1 ≤ n + 1 + 7; omega) (by show 8 + (8 + 11) + 60 * (n + 7) ≤ 60 * (n + 1 + 7); omega)) rfl hl.1 (Nat.le_of_ble_eq_true rfl) ⟨by show kK cs - kK cs + (kK z_38.1 - kK cs) ≤ kK cs9 - kK cs; omega, by show kM cs - kM cs + (kM z_38.1 - kM cs) ≤ kM cs9 - kM cs; omega⟩ dX4_runSelect_3 (fun H locs hP hD hG hgz hS => ?_)
  refine W_cnt (c2 := kK z_38.1 - kK cs) (n2 := kM z_38.1 - kM cs) (by omega) (by omega) ?_
  exact B_6 z_38.1 x0 x1 x2 z_38.2 h (by omega) (by omega) _ _ _ _ hP hD hG (by omega) hS (lv_sub hl [0, 1, 2] rfl)
set_option maxHeartbeats 4000000 in
set_option maxRecDepth 100000 in
theorem sba_X4_joinSources (l : Launch) (dC : Nat → ClassId) (dI : Nat → Nat → Nat) (cB cI cJ cZ cS cO : ClassId) (b : Nat) (K V : Nat → Nat) (fz : Value) (F : Nat) (n : Nat) (T : TC_X4_runQuery) (hT_X4_runQuery : ∀ (cs : CS) (x0 : Nat) (x1 : Nat) (x2 : Int32) (cs9 : CS) (r9 : Int32), T.1 cs x0 x1 x2 = some (cs9, r9) → oaI l dC dI cB cI cJ cZ cS cO b K V fz yX4_runQuery (wsOf yX4_runQuery cX4_runQuery 9 (some .int)) (n + 7) [.ref (b + x0), .ref (b + x1), .int x2] cs cs9 r9) (hT_X4_runSelect : ∀ (cs : CS) (x0 : Nat) (x1 : Nat) (x2 : Int32) (cs9 : CS) (r9 : Int32), T.2.1 cs x0 x1 x2 = some (cs9, r9) → oaI l dC dI cB cI cJ cZ cS cO b K V fz yX4_runSelect (wsOf yX4_runSelect cX4_runSelect 5 (some .int)) (n + 7) [.ref (b + x0), .ref (b + x1), .int x2] cs cs9 r9) (hT_X4_joinSources : ∀ (cs : CS) (x0 : Nat) (x1 : Nat) (x2 : Int32) (cs9 : CS) (r9 : Int32), T.2.2.1 cs x0 x1 x2 = some (cs9, r9) → oaI l dC dI cB cI cJ cZ cS cO b K V fz yX4_joinSources (wsOf yX4_joinSources cX4_joinSources 8 (some .int)) (n + 7) [.ref (b + x0), .ref (b + x1), .int x2] cs cs9 r9) (hT_X4_runSource : ∀ (cs : CS) (x0 : Nat) (x1 : Nat) (x2 : Int32) (cs9 : CS) (r9 : Int32), T.2.2.2 cs x0 x1 x2 = some (cs9, r9) → oaI l dC dI cB cI cJ cZ cS cO b K V fz yX4_runSource (wsOf yX4_runSource cX4_runSource 5 (some .int)) (n + 7) [.ref (b + x0), .ref (b + x1), .int x2] cs cs9 r9) (cs : CS) (x0 : Nat) (x1 : Nat) (x2 : Int32) (cs9 : CS) (r9 : Int32) (hf : cb_X4_joinSources F T cs x0 x1 x2 = some (cs9, r9)) : oaI l dC dI cB cI cJ cZ cS cO b K V fz yX4_joinSources (wsOf yX4_joinSources cX4_joinSources 8 (some .int)) (n + 1 + 7) [.ref (b + x0), .ref (b + x1), .int x2] cs cs9 r9 := by
  obtain ⟨kb9, mb9⟩ := mo_cb_X4_joinSources F T (fun c_ x_0 x_1 x_2 z_ r_ h_ => (hT_X4_runQuery c_ x_0 x_1 x_2 z_ r_ h_).1) (fun c_ x_0 x_1 x_2 z_ r_ h_ => (hT_X4_runSelect c_ x_0 x_1 x_2 z_ r_ h_).1) (fun c_ x_0 x_1 x_2 z_ r_ h_ => (hT_X4_joinSources c_ x_0 x_1 x_2 z_ r_ h_).1) (fun c_ x_0 x_1 x_2 z_ r_ h_ => (hT_X4_runSource c_ x_0 x_1 x_2 z_ r_ h_).1) cs x0 x1 x2 cs9 r9 hf
  refine ⟨⟨kb9, mb9⟩, ?_⟩
  refine Met.ofW (cc := cX4_joinSources) (maxL := 8) (ret := (some .int)) (by decide) rfl ?_
  intro p e s m args below meth c s₁ B hml hv
  obtain ⟨rfl, hsz, hP, hK, hD0, hZ⟩ := hv
  have hx := B.exec
  have hb := B.bytes
  have hr := B.returns
  have hts := atoms_spec (ws := (wsOf yX4_joinSources cX4_joinSources 8 (some .int))) B.pre
  have hown : s.vm.findClass RX4 = some m.cls := findClass_of_methodNamed B.named
  have hlocks := B.notSynchronized
  have hD := hD0.self (sz := b + kK cs)
  generalize hAe : va_A (cW cB cI cJ cZ cS cO b cs) (b + kK cs) = A at hD hZ ⊢
  have hA : ∀ q : Nat, s.heap.size ≤ q → A q := fun q h => by rw [← hAe]; exact Or.inr (by omega)
  have hS : va_S A s.heap s.heap [] := va_S.rf
  have hG : va_S A s.heap s.heap [] := va_S.rf
  have hgz : s.heap.size = b + kK cs := hsz
  have hl := lv_entry ([.ref (b + x0), .ref (b + x1), .int x2]) (n := 8) (Nat.le_of_ble_eq_true rfl)
  rw [lg_entry_eq]
  generalize (lg_sl ([.ref (b + x0), .ref (b + x1), .int x2]) ++ List.replicate (8 - (lg_sl ([.ref (b + x0), .ref (b + x1), .int x2])).length) Slot.unset).toArray = ls at hl ⊢
  have hl : lv_has ls 8 [(0, .ref (b + x0)), (1, .ref (b + x1)), (2, .int x2)] := hl
  have B_86 : ∀ (cs1 : CS) (u3 : Int32), c_X4_joinSources_b86 F T cs1 u3 = some (cs9, r9) → kK cs ≤ kK cs1 → kM cs ≤ kM cs1 → ∀ (Gh H : Heap) (locs : List Loc) (ls : Array Slot), va_P (dC, dI) vwCl (cW cB cI cJ cZ cS cO b cs1) H → va_D A (cW cB cI cJ cZ cS cO b cs1) → va_S A s.heap Gh [] → Gh.size = b + kK cs1 → va_S A Gh H locs → lv_has ls 8 [(3, .int u3)] → W p l e (headSpec (wsOf yX4_joinSources cX4_joinSources 8 (some .int)) ({ frames := n + 1 + 7, cells := kK cs9 - kK cs, slots := kM cs9 - kM cs, locals := 60 * (n + 1 + 7) } : Room)).room s m ([.ref (b + x0), .ref (b + x1), .int x2] : List Value).toArray below meth c H locs (kK cs1 - kK cs) (kM cs1 - kM cs) (MQ below (va_Qi (fun (x : Int32) (_ : Unit) => x = r9) (fun _ t_ => va_P (dC, dI) vwCl (cW cB cI cJ cZ cS cO b cs9) t_.heap ∧ va_D A (cW cB cI cJ cZ cS cO b cs9) ∧ b + kK cs9 ≤ t_.heap.size) A) ([.ref (b + x0), .ref (b + x1), .int x2] : List Value).toArray s (kK cs9 - kK cs) (kM cs9 - kM cs) A) (F0 m 86 ls []) := by
    intro cs1 u3 h hmk hmm Gh H locs ls hP hD hG hgz hS hl
    obtain ⟨kb9, mb9⟩ := mo_c_X4_joinSources_b86 F T (fun c_ x_0 x_1 x_2 z_ r_ h_ => (hT_X4_runQuery c_ x_0 x_1 x_2 z_ r_ h_).1) (fun c_ x_0 x_1 x_2 z_ r_ h_ => (hT_X4_runSelect c_ x_0 x_1 x_2 z_ r_ h_).1) (fun c_ x_0 x_1 x_2 z_ r_ h_ => (hT_X4_joinSources c_ x_0 x_1 x_2 z_ r_ h_).1) (fun c_ x_0 x_1 x_2 z_ r_ h_ => (hT_X4_runSource c_ x_0 x_1 x_2 z_ r_ h_).1) cs1 u3 cs9 r9 h
    unfold c_X4_joinSources_b86 at h
    refine lv_iload_n hx hb dX4_joinSources_86 rfl (lv_at hl 0 rfl) ?_
    obtain ⟨e1, e2⟩ := Prod.mk.inj (Option.some.inj h)
    rw [e1] at hP hD
    have e3 := congrArg kK e1
    have e4 := congrArg kM e1
    refine W_cnt (c2 := kK cs9 - kK cs) (n2 := kM cs9 - kM cs) (by omega) (by omega) ?_
    exact W.iret (v := u3) hx hb hr (fun t_ ht hW => ⟨⟨u3, (), rfl, e2, by rw [ht]; exact hP, hD, by rw [ht]; have := hS.1; omega⟩, (hG.comp hS).F ht⟩) (hG.comp hS).2.2 dX4_joinSources_87
  have L_5 : ∀ (lf_5 : Nat), ∀ (cs1 : CS) (u0 : Nat) (u1 : Nat) (u2 : Int32) (u3 : Int32) (u4 : Int32), c_X4_joinSources_L5 F T lf_5 cs1 u0 u1 u2 u3 u4 = some (cs9, r9) → kK cs ≤ kK cs1 → kM cs ≤ kM cs1 → ∀ (Gh H : Heap) (locs : List Loc) (ls : Array Slot), va_P (dC, dI) vwCl (cW cB cI cJ cZ cS cO b cs1) H → va_D A (cW cB cI cJ cZ cS cO b cs1) → va_S A s.heap Gh [] → Gh.size = b + kK cs1 → va_S A Gh H locs → lv_has ls 8 [(0, .ref (b + u0)), (1, .ref (b + u1)), (2, .int u2), (3, .int u3), (4, .int u4)] → W p l e (headSpec (wsOf yX4_joinSources cX4_joinSources 8 (some .int)) ({ frames := n + 1 + 7, cells := kK cs9 - kK cs, slots := kM cs9 - kM cs, locals := 60 * (n + 1 + 7) } : Room)).room s m ([.ref (b + x0), .ref (b + x1), .int x2] : List Value).toArray below meth c H locs (kK cs1 - kK cs) (kM cs1 - kM cs) (MQ below (va_Qi (fun (x : Int32) (_ : Unit) => x = r9) (fun _ t_ => va_P (dC, dI) vwCl (cW cB cI cJ cZ cS cO b cs9) t_.heap ∧ va_D A (cW cB cI cJ cZ cS cO b cs9) ∧ b + kK cs9 ≤ t_.heap.size) A) ([.ref (b + x0), .ref (b + x1), .int x2] : List Value).toArray s (kK cs9 - kK cs) (kM cs9 - kM cs) A) (F0 m 5 ls []) := by
    intro lf_5
    induction lf_5 with
    | zero => intro cs1 u0 u1 u2 u3 u4 h; cases (show (none : Option (CS × Int32)) = _ from h)
    | succ lf_5 ih_5 =>
      have B_80 : ∀ (cs1 : CS) (u0 : Nat) (u1 : Nat) (u2 : Int32) (u3 : Int32) (u4 : Int32), c_X4_joinSources_b80 F T (c_X4_joinSources_L5 F T lf_5) cs1 u0 u1 u2 u3 u4 = some (cs9, r9) → kK cs ≤ kK cs1 → kM cs ≤ kM cs1 → ∀ (Gh H : Heap) (locs : List Loc) (ls : Array Slot), va_P (dC, dI) vwCl (cW cB cI cJ cZ cS cO b cs1) H → va_D A (cW cB cI cJ cZ cS cO b cs1) → va_S A s.heap Gh [] → Gh.size = b + kK cs1 → va_S A Gh H locs → lv_has ls 8 [(0, .ref (b + u0)), (1, .ref (b + u1)), (2, .int u2), (3, .int u3), (4, .int u4)] → W p l e (headSpec (wsOf yX4_joinSources cX4_joinSources 8 (some .int)) ({ frames := n + 1 + 7, cells := kK cs9 - kK cs, slots := kM cs9 - kM cs, locals := 60 * (n + 1 + 7) } : Room)).room s m ([.ref (b + x0), .ref (b + x1), .int x2] : List Value).toArray below meth c H locs (kK cs1 - kK cs) (kM cs1 - kM cs) (MQ below (va_Qi (fun (x : Int32) (_ : Unit) => x = r9) (fun _ t_ => va_P (dC, dI) vwCl (cW cB cI cJ cZ cS cO b cs9) t_.heap ∧ va_D A (cW cB cI cJ cZ cS cO b cs9) ∧ b + kK cs9 ≤ t_.heap.size) A) ([.ref (b + x0), .ref (b + x1), .int x2] : List Value).toArray s (kK cs9 - kK cs) (kM cs9 - kM cs) A) (F0 m 80 ls []) := by
        intro cs1 u0 u1 u2 u3 u4 h hmk hmm Gh H locs ls hP hD hG hgz hS hl
        obtain ⟨kb9, mb9⟩ := mo_c_X4_joinSources_b80 F T (fun c_ x_0 x_1 x_2 z_ r_ h_ => (hT_X4_runQuery c_ x_0 x_1 x_2 z_ r_ h_).1) (fun c_ x_0 x_1 x_2 z_ r_ h_ => (hT_X4_runSelect c_ x_0 x_1 x_2 z_ r_ h_).1) (fun c_ x_0 x_1 x_2 z_ r_ h_ => (hT_X4_joinSources c_ x_0 x_1 x_2 z_ r_ h_).1) (fun c_ x_0 x_1 x_2 z_ r_ h_ => (hT_X4_runSource c_ x_0 x_1 x_2 z_ r_ h_).1) (c_X4_joinSources_L5 F T lf_5) (mo_c_X4_joinSources_L5 F T (fun c_ x_0 x_1 x_2 z_ r_ h_ => (hT_X4_runQuery c_ x_0 x_1 x_2 z_ r_ h_).1) (fun c_ x_0 x_1 x_2 z_ r_ h_ => (hT_X4_runSelect c_ x_0 x_1 x_2 z_ r_ h_).1) (fun c_ x_0 x_1 x_2 z_ r_ h_ => (hT_X4_joinSources c_ x_0 x_1 x_2 z_ r_ h_).1) (fun c_ x_0 x_1 x_2 z_ r_ h_ => (hT_X4_runSource c_ x_0 x_1 x_2 z_ r_ h_).1) lf_5) cs1 u0 u1 u2 u3 u4 cs9 r9 h
        unfold c_X4_joinSources_b80 at h
        refine lv_iinc (v := u4 + 1) (lv' := [(4, .int (u4 + 1)), (0, .ref (b + u0)), (1, .ref (b + u1)), (2, .int u2), (3, .int u3)]) hx hb dX4_joinSources_80 hl (k := 4) rfl rfl (by decide) rfl (fun ls hl => ?_)
        refine lv_goto (tgt := 5) hx hb dX4_joinSources_83 (by decide) ?_
        refine W_cnt (c2 := kK cs1 - kK cs) (n2 := kM cs1 - kM cs) (by omega) (by omega) ?_
        exact ih_5 cs1 u0 u1 u2 u3 (u4 + 1) h (by omega) (by omega) _ _ _ _ hP hD hG (by omega) hS (lv_sub hl [1, 2, 3, 4, 0] rfl)
      have B_79 : ∀ (cs1 : CS) (u0 : Nat) (u1 : Nat) (u2 : Int32) (u4 : Int32) (y0 : Int32), c_X4_joinSources_b79 F T (c_X4_joinSources_L5 F T lf_5) cs1 u0 u1 u2 u4 y0 = some (cs9, r9) → kK cs ≤ kK cs1 → kM cs ≤ kM cs1 → ∀ (Gh H : Heap) (locs : List Loc) (ls : Array Slot), va_P (dC, dI) vwCl (cW cB cI cJ cZ cS cO b cs1) H → va_D A (cW cB cI cJ cZ cS cO b cs1) → va_S A s.heap Gh [] → Gh.size = b + kK cs1 → va_S A Gh H locs → lv_has ls 8 [(0, .ref (b + u0)), (1, .ref (b + u1)), (2, .int u2), (4, .int u4)] → W p l e (headSpec (wsOf yX4_joinSources cX4_joinSources 8 (some .int)) ({ frames := n + 1 + 7, cells := kK cs9 - kK cs, slots := kM cs9 - kM cs, locals := 60 * (n + 1 + 7) } : Room)).room s m ([.ref (b + x0), .ref (b + x1), .int x2] : List Value).toArray below meth c H locs (kK cs1 - kK cs) (kM cs1 - kM cs) (MQ below (va_Qi (fun (x : Int32) (_ : Unit) => x = r9) (fun _ t_ => va_P (dC, dI) vwCl (cW cB cI cJ cZ cS cO b cs9) t_.heap ∧ va_D A (cW cB cI cJ cZ cS cO b cs9) ∧ b + kK cs9 ≤ t_.heap.size) A) ([.ref (b + x0), .ref (b + x1), .int x2] : List Value).toArray s (kK cs9 - kK cs) (kM cs9 - kM cs) A) (F0 m 79 ls [.int y0]) := by
        intro cs1 u0 u1 u2 u4 y0 h hmk hmm Gh H locs ls hP hD hG hgz hS hl
        obtain ⟨kb9, mb9⟩ := mo_c_X4_joinSources_b79 F T (fun c_ x_0 x_1 x_2 z_ r_ h_ => (hT_X4_runQuery c_ x_0 x_1 x_2 z_ r_ h_).1) (fun c_ x_0 x_1 x_2 z_ r_ h_ => (hT_X4_runSelect c_ x_0 x_1 x_2 z_ r_ h_).1) (fun c_ x_0 x_1 x_2 z_ r_ h_ => (hT_X4_joinSources c_ x_0 x_1 x_2 z_ r_ h_).1) (fun c_ x_0 x_1 x_2 z_ r_ h_ => (hT_X4_runSource c_ x_0 x_1 x_2 z_ r_ h_).1) (c_X4_joinSources_L5 F T lf_5) (mo_c_X4_joinSources_L5 F T (fun c_ x_0 x_1 x_2 z_ r_ h_ => (hT_X4_runQuery c_ x_0 x_1 x_2 z_ r_ h_).1) (fun c_ x_0 x_1 x_2 z_ r_ h_ => (hT_X4_runSelect c_ x_0 x_1 x_2 z_ r_ h_).1) (fun c_ x_0 x_1 x_2 z_ r_ h_ => (hT_X4_joinSources c_ x_0 x_1 x_2 z_ r_ h_).1) (fun c_ x_0 x_1 x_2 z_ r_ h_ => (hT_X4_runSource c_ x_0 x_1 x_2 z_ r_ h_).1) lf_5) cs1 u0 u1 u2 u4 y0 cs9 r9 h
        unfold c_X4_joinSources_b79 at h
        refine lv_istore_n (lv' := [(3, .int y0), (0, .ref (b + u0)), (1, .ref (b + u1)), (2, .int u2), (4, .int u4)]) hx hb dX4_joinSources_79 rfl hl (by decide) rfl (fun ls hl => ?_)
        refine W_cnt (c2 := kK cs1 - kK cs) (n2 := kM cs1 - kM cs) (by omega) (by omega) ?_
        exact B_80 cs1 u0 u1 u2 y0 u4 h (by omega) (by omega) _ _ _ _ hP hD hG (by omega) hS (lv_sub hl [1, 2, 3, 0, 4] rfl)
      have B_57 : ∀ (cs1 : CS) (u0 : Nat) (u1 : Nat) (u2 : Int32) (u3 : Int32) (u4 : Int32) (u5 : Nat) (y0 : Int32), c_X4_joinSources_b57 F T (c_X4_joinSources_L5 F T lf_5) cs1 u0 u1 u2 u3 u4 u5 y0 = some (cs9, r9) → kK cs ≤ kK cs1 → kM cs ≤ kM cs1 → ∀ (Gh H : Heap) (locs : List Loc) (ls : Array Slot), va_P (dC, dI) vwCl (cW cB cI cJ cZ cS cO b cs1) H → va_D A (cW cB cI cJ cZ cS cO b cs1) → va_S A s.heap Gh [] → Gh.size = b + kK cs1 → va_S A Gh H locs → lv_has ls 8 [(0, .ref (b + u0)), (1, .ref (b + u1)), (2, .int u2), (3, .int u3), (4, .int u4), (5, .ref (b + u5))] → W p l e (headSpec (wsOf yX4_joinSources cX4_joinSources 8 (some .int)) ({ frames := n + 1 + 7, cells := kK cs9 - kK cs, slots := kM cs9 - kM cs, locals := 60 * (n + 1 + 7) } : Room)).room s m ([.ref (b + x0), .ref (b + x1), .int x2] : List Value).toArray below meth c H locs (kK cs1 - kK cs) (kM cs1 - kM cs) (MQ below (va_Qi (fun (x : Int32) (_ : Unit) => x = r9) (fun _ t_ => va_P (dC, dI) vwCl (cW cB cI cJ cZ cS cO b cs9) t_.heap ∧ va_D A (cW cB cI cJ cZ cS cO b cs9) ∧ b + kK cs9 ≤ t_.heap.size) A) ([.ref (b + x0), .ref (b + x1), .int x2] : List Value).toArray s (kK cs9 - kK cs) (kM cs9 - kM cs) A) (F0 m 57 ls [.int y0]) := by
        intro cs1 u0 u1 u2 u3 u4 u5 y0 h hmk hmm Gh H locs ls hP hD hG hgz hS hl
        obtain ⟨kb9, mb9⟩ := mo_c_X4_joinSources_b57 F T (fun c_ x_0 x_1 x_2 z_ r_ h_ => (hT_X4_runQuery c_ x_0 x_1 x_2 z_ r_ h_).1) (fun c_ x_0 x_1 x_2 z_ r_ h_ => (hT_X4_runSelect c_ x_0 x_1 x_2 z_ r_ h_).1) (fun c_ x_0 x_1 x_2 z_ r_ h_ => (hT_X4_joinSources c_ x_0 x_1 x_2 z_ r_ h_).1) (fun c_ x_0 x_1 x_2 z_ r_ h_ => (hT_X4_runSource c_ x_0 x_1 x_2 z_ r_ h_).1) (c_X4_joinSources_L5 F T lf_5) (mo_c_X4_joinSources_L5 F T (fun c_ x_0 x_1 x_2 z_ r_ h_ => (hT_X4_runQuery c_ x_0 x_1 x_2 z_ r_ h_).1) (fun c_ x_0 x_1 x_2 z_ r_ h_ => (hT_X4_runSelect c_ x_0 x_1 x_2 z_ r_ h_).1) (fun c_ x_0 x_1 x_2 z_ r_ h_ => (hT_X4_joinSources c_ x_0 x_1 x_2 z_ r_ h_).1) (fun c_ x_0 x_1 x_2 z_ r_ h_ => (hT_X4_runSource c_ x_0 x_1 x_2 z_ r_ h_).1) lf_5) cs1 u0 u1 u2 u3 u4 u5 y0 cs9 r9 h
        unfold c_X4_joinSources_b57 at h
        refine lv_istore (lv' := [(7, .int y0), (0, .ref (b + u0)), (1, .ref (b + u1)), (2, .int u2), (3, .int u3), (4, .int u4), (5, .ref (b + u5))]) hx hb dX4_joinSources_57 hl (by decide) rfl (fun ls hl => ?_)
        refine lv_iload hx hb dX4_joinSources_59 (lv_at hl 5 rfl) ?_
        refine lv_if_ne (tgt := 69) hx hb dX4_joinSources_61 (by decide) (fun c_1 => ?_) (fun c_1 => ?_)
        · skip
          replace h := (if_neg c_1).symm.trans h
          refine lv_aload_n hx hb dX4_joinSources_69 rfl (lv_at hl 1 rfl) ?_
          refine lv_aload hx hb dX4_joinSources_70 (lv_at hl 6 rfl) ?_
          refine lv_iload_n hx hb dX4_joinSources_72 rfl (lv_at hl 3 rfl) ?_
          refine lv_iload_n hx hb dX4_joinSources_73 rfl (lv_at hl 4 rfl) ?_
          refine lv_iload hx hb dX4_joinSources_74 (lv_at hl 0 rfl) ?_
          replace h := ob h; obtain ⟨w_3, hw_3, h⟩ := h
          replace h := ob h; obtain ⟨z_2, hv_2, h⟩ := h
          obtain ⟨qk_2, qm_2⟩ := mo_c_X4_join F cs1 u0 u5 u2 u3 y0 z_2.1 z_2.2 hv_2
          obtain ⟨k9_2, m9_2⟩ := mo_c_X4_joinSources_b79 F T (fun c_ x_0 x_1 x_2 z_ r_ h_ => (hT_X4_runQuery c_ x_0 x_1 x_2 z_ r_ h_).1) (fun c_ x_0 x_1 x_2 z_ r_ h_ => (hT_X4_runSelect c_ x_0 x_1 x_2 z_ r_ h_).1) (fun c_ x_0 x_1 x_2 z_ r_ h_ => (hT_X4_joinSources c_ x_0 x_1 x_2 z_ r_ h_).1) (fun c_ x_0 x_1 x_2 z_ r_ h_ => (hT_X4_runSource c_ x_0 x_1 x_2 z_ r_ h_).1) (c_X4_joinSources_L5 F T lf_5) (mo_c_X4_joinSources_L5 F T (fun c_ x_0 x_1 x_2 z_ r_ h_ => (hT_X4_runQuery c_ x_0 x_1 x_2 z_ r_ h_).1) (fun c_ x_0 x_1 x_2 z_ r_ h_ => (hT_X4_runSelect c_ x_0 x_1 x_2 z_ r_ h_).1) (fun c_ x_0 x_1 x_2 z_ r_ h_ => (hT_X4_joinSources c_ x_0 x_1 x_2 z_ r_ h_).1) (fun c_ x_0 x_1 x_2 z_ r_ h_ => (hT_X4_runSource c_ x_0 x_1 x_2 z_ r_ h_).1) lf_5) z_2.1 u0 u1 u2 u4 z_2.2 cs9 r9 h
          refine cavI (As := [.ref (b + u5), .int u2, .int u3, .int y0]) hx hb hml hts hown hK hP hD hS hG hA (by omega) (by omega) hZ (X := 5) (by decide) rfl (ckE_some hw_3) (sa_X4_join l dC dI cB cI cJ cZ cS cO b K V fz F cs1 u0 u5 u2 u3 y0 z_2.1 z_2.2 hv_2) (cw_X4_X4_join hts (fr := 6) (by show 6 + 1 ≤ n + 1 + 7; omega) (by show 8 + (15 + 11) + 60 * (6) ≤ 60 * (n + 1 + 7); omega)) rfl hl.1 (Nat.le_of_ble_eq_true rfl) ⟨by show kK cs1 - kK cs + (kK z_2.1 - kK cs1) ≤ kK cs9 - kK cs; omega, by show kM cs1 - kM cs + (kM z_2.1 - kM cs1) ≤ kM cs9 - kM cs; omega⟩ dX4_joinSources_76 (fun H locs hP hD hG hgz hS => ?_)
          refine W_cnt (c2 := kK z_2.1 - kK cs) (n2 := kM z_2.1 - kM cs) (by omega) (by omega) ?_
          exact B_79 z_2.1 u0 u1 u2 u4 z_2.2 h (by omega) (by omega) _ _ _ _ hP hD hG (by omega) hS (lv_sub hl [1, 2, 3, 5] rfl)
        · skip
          replace h := (if_pos c_1).symm.trans h
          refine lv_iload hx hb dX4_joinSources_64 (lv_at hl 0 rfl) ?_
          refine lv_goto (tgt := 79) hx hb dX4_joinSources_66 (by decide) ?_
          refine W_cnt (c2 := kK cs1 - kK cs) (n2 := kM cs1 - kM cs) (by omega) (by omega) ?_
          exact B_79 cs1 u0 u1 u2 u4 y0 h (by omega) (by omega) _ _ _ _ hP hD hG (by omega) hS (lv_sub hl [1, 2, 3, 5] rfl)
      intro cs1 u0 u1 u2 u3 u4 h hmk hmm Gh H locs ls hP hD hG hgz hS hl
      obtain ⟨kb9, mb9⟩ := mo_c_X4_joinSources_L5 F T (fun c_ x_0 x_1 x_2 z_ r_ h_ => (hT_X4_runQuery c_ x_0 x_1 x_2 z_ r_ h_).1) (fun c_ x_0 x_1 x_2 z_ r_ h_ => (hT_X4_runSelect c_ x_0 x_1 x_2 z_ r_ h_).1) (fun c_ x_0 x_1 x_2 z_ r_ h_ => (hT_X4_joinSources c_ x_0 x_1 x_2 z_ r_ h_).1) (fun c_ x_0 x_1 x_2 z_ r_ h_ => (hT_X4_runSource c_ x_0 x_1 x_2 z_ r_ h_).1) (lf_5 + 1) cs1 u0 u1 u2 u3 u4 cs9 r9 h
      rw [c_X4_joinSources_L5] at h
      refine lv_iload hx hb dX4_joinSources_5 (lv_at hl 4 rfl) ?_
      refine lv_aload_n hx hb dX4_joinSources_7 rfl (lv_at hl 1 rfl) ?_
      replace h := ob h; obtain ⟨v_4, hv_4, h⟩ := h
      refine fg_X4_171 hx hb hts hown hK hP hv_4 dX4_joinSources_8 ?_
      refine lv_icmp_ge (tgt := 86) hx hb dX4_joinSources_11 (by decide) (fun c_5 => ?_) (fun c_5 => ?_)
      · skip
        replace h := (if_pos c_5).symm.trans h
        refine W_cnt (c2 := kK cs1 - kK cs) (n2 := kM cs1 - kM cs) (by omega) (by omega) ?_
        exact B_86 cs1 u3 h (by omega) (by omega) _ _ _ _ hP hD hG (by omega) hS (lv_sub hl [3] rfl)
      · skip
        replace h := (if_neg c_5).symm.trans h
        refine lv_iload hx hb dX4_joinSources_14 (lv_at hl 4 rfl) ?_
        refine lv_aload_n hx hb dX4_joinSources_16 rfl (lv_at hl 1 rfl) ?_
        replace h := ob h; obtain ⟨v_6, hv_6, h⟩ := h
        refine fg_X4_174 hx hb hts hown hK hP hv_6 dX4_joinSources_17 ?_
        replace h := ob h; obtain ⟨v_7, hv_7, h⟩ := h
        refine alen3 hx hb hK hP rfl hv_7 dX4_joinSources_20 ?_
        refine lv_icmp_ge (tgt := 86) hx hb dX4_joinSources_21 (by decide) (fun c_8 => ?_) (fun c_8 => ?_)
        · skip
          replace h := (if_pos c_8).symm.trans h
          refine W_cnt (c2 := kK cs1 - kK cs) (n2 := kM cs1 - kM cs) (by omega) (by omega) ?_
          exact B_86 cs1 u3 h (by omega) (by omega) _ _ _ _ hP hD hG (by omega) hS (lv_sub hl [3] rfl)
        · skip
          replace h := (if_neg c_8).symm.trans h
          refine lv_aload_n hx hb dX4_joinSources_24 rfl (lv_at hl 1 rfl) ?_
          replace h := ob h; obtain ⟨v_9, hv_9, h⟩ := h
          refine fg_X4_174 hx hb hts hown hK hP hv_9 dX4_joinSources_25 ?_
          refine lv_iload hx hb dX4_joinSources_28 (lv_at hl 4 rfl) ?_
          replace h := ob h; obtain ⟨v_10, hv_10, h⟩ := h
          refine aldQ hx hb hK hP rfl hv_10 dX4_joinSources_30 ?_
          refine lv_astoreO (lv' := [(5, rv b v_10), (0, .ref (b + u0)), (1, .ref (b + u1)), (2, .int u2), (3, .int u3), (4, .int u4)]) hx hb dX4_joinSources_31 hl (by decide) rfl (fun ls hl => ?_)
          refine lv_aloadO hx hb dX4_joinSources_33 (lv_at hl 0 rfl) ?_
          cases v_10 with
          | none =>
            replace h := oc_n.symm.trans h
            refine lv_ifnullN (tgt := 80) hx hb dX4_joinSources_35 (by decide) ?_
            refine W_cnt (c2 := kK cs1 - kK cs) (n2 := kM cs1 - kM cs) (by omega) (by omega) ?_
            exact B_80 cs1 u0 u1 u2 u3 u4 h (by omega) (by omega) _ _ _ _ hP hD hG (by omega) hS (lv_sub hl [1, 2, 3, 4, 5] rfl)
          | some i_11 =>
            replace h := oc_s.symm.trans h
            refine lv_ifnull hx hb dX4_joinSources_35 ?_
            refine lv_iload_n hx hb dX4_joinSources_38 rfl (lv_at hl 3 rfl) ?_
            refine lv_iload_n hx hb dX4_joinSources_39 rfl (lv_at hl 4 rfl) ?_
            refine lv_aload hx hb dX4_joinSources_40 (lv_at hl 0 rfl) ?_
            replace h := ob h; obtain ⟨v_12, hv_12, h⟩ := h
            refine fg_X4_178 hx hb hts hown hK hP hv_12 dX4_joinSources_42 ?_
            refine lv_imul hx hb dX4_joinSources_45 ?_
            refine lv_iadd hx hb dX4_joinSources_46 ?_
            refine lv_istore (lv' := [(6, .int (u2 + (u3 * v_12))), (5, .ref (b + i_11)), (0, .ref (b + u0)), (1, .ref (b + u1)), (2, .int u2), (3, .int u3), (4, .int u4)]) hx hb dX4_joinSources_47 hl (by decide) rfl (fun ls hl => ?_)
            refine lv_aload_n hx hb dX4_joinSources_49 rfl (lv_at hl 2 rfl) ?_
            refine lv_aload hx hb dX4_joinSources_50 (lv_at hl 1 rfl) ?_
            refine lv_iload hx hb dX4_joinSources_52 (lv_at hl 0 rfl) ?_
            replace h := ob h; obtain ⟨w_14, hw_14, h⟩ := h
            replace h := ob h; obtain ⟨z_13, hv_13, h⟩ := h
            obtain ⟨qk_13, qm_13⟩ := (hT_X4_runSource cs1 u0 i_11 (u2 + (u3 * v_12)) z_13.1 z_13.2 hv_13).1
            obtain ⟨k9_13, m9_13⟩ := mo_c_X4_joinSources_b57 F T (fun c_ x_0 x_1 x_2 z_ r_ h_ => (hT_X4_runQuery c_ x_0 x_1 x_2 z_ r_ h_).1) (fun c_ x_0 x_1 x_2 z_ r_ h_ => (hT_X4_runSelect c_ x_0 x_1 x_2 z_ r_ h_).1) (fun c_ x_0 x_1 x_2 z_ r_ h_ => (hT_X4_joinSources c_ x_0 x_1 x_2 z_ r_ h_).1) (fun c_ x_0 x_1 x_2 z_ r_ h_ => (hT_X4_runSource c_ x_0 x_1 x_2 z_ r_ h_).1) (c_X4_joinSources_L5 F T lf_5) (mo_c_X4_joinSources_L5 F T (fun c_ x_0 x_1 x_2 z_ r_ h_ => (hT_X4_runQuery c_ x_0 x_1 x_2 z_ r_ h_).1) (fun c_ x_0 x_1 x_2 z_ r_ h_ => (hT_X4_runSelect c_ x_0 x_1 x_2 z_ r_ h_).1) (fun c_ x_0 x_1 x_2 z_ r_ h_ => (hT_X4_joinSources c_ x_0 x_1 x_2 z_ r_ h_).1) (fun c_ x_0 x_1 x_2 z_ r_ h_ => (hT_X4_runSource c_ x_0 x_1 x_2 z_ r_ h_).1) lf_5) z_13.1 u0 u1 u2 u3 u4 i_11 z_13.2 cs9 r9 h
            refine cavI (As := [.ref (b + i_11), .int (u2 + (u3 * v_12))]) hx hb hml hts hown hK hP hD hS hG hA (by omega) (by omega) hZ (X := 5) (by decide) rfl (ckE_some hw_14) (hT_X4_runSource cs1 u0 i_11 (u2 + (u3 * v_12)) z_13.1 z_13.2 hv_13) (cw_X4_X4_runSource hts (fr := n + 7) (by show n + 7 + 1 ≤ n + 1 + 7; omega) (by show 8 + (5 + 11) + 60 * (n + 7) ≤ 60 * (n + 1 + 7); omega)) rfl hl.1 (Nat.le_of_ble_eq_true rfl) ⟨by show kK cs1 - kK cs + (kK z_13.1 - kK cs1) ≤ kK cs9 - kK cs; omega, by show kM cs1 - kM cs + (kM z_13.1 - kM cs1) ≤ kM cs9 - kM cs; omega⟩ dX4_joinSources_54 (fun H locs hP hD hG hgz hS => ?_)
            refine W_cnt (c2 := kK z_13.1 - kK cs) (n2 := kM z_13.1 - kM cs) (by omega) (by omega) ?_
            exact B_57 z_13.1 u0 u1 u2 u3 u4 i_11 z_13.2 h (by omega) (by omega) _ _ _ _ hP hD hG (by omega) hS (lv_sub hl [2, 3, 4, 5, 6, 1] rfl)
  have h := hf
  unfold cb_X4_joinSources at h
  refine W_cnt (c2 := kK cs - kK cs) (n2 := kM cs - kM cs) (by omega) (by omega) ?_
  refine lv_iconst (v := 0) hx hb dX4_joinSources_0 (by decide) ?_
  refine lv_istore_n (lv' := [(3, .int 0), (0, .ref (b + x0)), (1, .ref (b + x1)), (2, .int x2)]) hx hb dX4_joinSources_1 rfl hl (by decide) rfl (fun ls hl => ?_)
  refine lv_iconst (v := 0) hx hb dX4_joinSources_2 (by decide) ?_
  refine lv_istore (lv' := [(4, .int 0), (3, .int 0), (0, .ref (b + x0)), (1, .ref (b + x1)), (2, .int x2)]) hx hb dX4_joinSources_3 hl (by decide) rfl (fun ls hl => ?_)
  refine W_cnt (c2 := kK cs - kK cs) (n2 := kM cs - kM cs) (by omega) (by omega) ?_
  exact L_5 F cs x0 x1 x2 0 0 h (by omega) (by omega) _ _ _ _ hP hD hG (by omega) hS (lv_sub hl [2, 3, 4, 1, 0] rfl)
set_option maxHeartbeats 4000000 in
set_option maxRecDepth 100000 in
theorem sba_X4_runSource (l : Launch) (dC : Nat → ClassId) (dI : Nat → Nat → Nat) (cB cI cJ cZ cS cO : ClassId) (b : Nat) (K V : Nat → Nat) (fz : Value) (F : Nat) (n : Nat) (T : TC_X4_runQuery) (hT_X4_runQuery : ∀ (cs : CS) (x0 : Nat) (x1 : Nat) (x2 : Int32) (cs9 : CS) (r9 : Int32), T.1 cs x0 x1 x2 = some (cs9, r9) → oaI l dC dI cB cI cJ cZ cS cO b K V fz yX4_runQuery (wsOf yX4_runQuery cX4_runQuery 9 (some .int)) (n + 7) [.ref (b + x0), .ref (b + x1), .int x2] cs cs9 r9) (hT_X4_runSelect : ∀ (cs : CS) (x0 : Nat) (x1 : Nat) (x2 : Int32) (cs9 : CS) (r9 : Int32), T.2.1 cs x0 x1 x2 = some (cs9, r9) → oaI l dC dI cB cI cJ cZ cS cO b K V fz yX4_runSelect (wsOf yX4_runSelect cX4_runSelect 5 (some .int)) (n + 7) [.ref (b + x0), .ref (b + x1), .int x2] cs cs9 r9) (hT_X4_joinSources : ∀ (cs : CS) (x0 : Nat) (x1 : Nat) (x2 : Int32) (cs9 : CS) (r9 : Int32), T.2.2.1 cs x0 x1 x2 = some (cs9, r9) → oaI l dC dI cB cI cJ cZ cS cO b K V fz yX4_joinSources (wsOf yX4_joinSources cX4_joinSources 8 (some .int)) (n + 7) [.ref (b + x0), .ref (b + x1), .int x2] cs cs9 r9) (hT_X4_runSource : ∀ (cs : CS) (x0 : Nat) (x1 : Nat) (x2 : Int32) (cs9 : CS) (r9 : Int32), T.2.2.2 cs x0 x1 x2 = some (cs9, r9) → oaI l dC dI cB cI cJ cZ cS cO b K V fz yX4_runSource (wsOf yX4_runSource cX4_runSource 5 (some .int)) (n + 7) [.ref (b + x0), .ref (b + x1), .int x2] cs cs9 r9) (cs : CS) (x0 : Nat) (x1 : Nat) (x2 : Int32) (cs9 : CS) (r9 : Int32) (hf : cb_X4_runSource F T cs x0 x1 x2 = some (cs9, r9)) : oaI l dC dI cB cI cJ cZ cS cO b K V fz yX4_runSource (wsOf yX4_runSource cX4_runSource 5 (some .int)) (n + 1 + 7) [.ref (b + x0), .ref (b + x1), .int x2] cs cs9 r9 := by
  obtain ⟨kb9, mb9⟩ := mo_cb_X4_runSource F T (fun c_ x_0 x_1 x_2 z_ r_ h_ => (hT_X4_runQuery c_ x_0 x_1 x_2 z_ r_ h_).1) (fun c_ x_0 x_1 x_2 z_ r_ h_ => (hT_X4_runSelect c_ x_0 x_1 x_2 z_ r_ h_).1) (fun c_ x_0 x_1 x_2 z_ r_ h_ => (hT_X4_joinSources c_ x_0 x_1 x_2 z_ r_ h_).1) (fun c_ x_0 x_1 x_2 z_ r_ h_ => (hT_X4_runSource c_ x_0 x_1 x_2 z_ r_ h_).1) cs x0 x1 x2 cs9 r9 hf
  refine ⟨⟨kb9, mb9⟩, ?_⟩
  refine Met.ofW (cc := cX4_runSource) (maxL := 5) (ret := (some .int)) (by decide) rfl ?_
  intro p e s m args below meth c s₁ B hml hv
  obtain ⟨rfl, hsz, hP, hK, hD0, hZ⟩ := hv
  have hx := B.exec
  have hb := B.bytes
  have hr := B.returns
  have hts := atoms_spec (ws := (wsOf yX4_runSource cX4_runSource 5 (some .int))) B.pre
  have hown : s.vm.findClass RX4 = some m.cls := findClass_of_methodNamed B.named
  have hlocks := B.notSynchronized
  have hD := hD0.self (sz := b + kK cs)
  generalize hAe : va_A (cW cB cI cJ cZ cS cO b cs) (b + kK cs) = A at hD hZ ⊢
  have hA : ∀ q : Nat, s.heap.size ≤ q → A q := fun q h => by rw [← hAe]; exact Or.inr (by omega)
  have hS : va_S A s.heap s.heap [] := va_S.rf
  have hG : va_S A s.heap s.heap [] := va_S.rf
  have hgz : s.heap.size = b + kK cs := hsz
  have hl := lv_entry ([.ref (b + x0), .ref (b + x1), .int x2]) (n := 5) (Nat.le_of_ble_eq_true rfl)
  rw [lg_entry_eq]
  generalize (lg_sl ([.ref (b + x0), .ref (b + x1), .int x2]) ++ List.replicate (5 - (lg_sl ([.ref (b + x0), .ref (b + x1), .int x2])).length) Slot.unset).toArray = ls at hl ⊢
  have hl : lv_has ls 5 [(0, .ref (b + x0)), (1, .ref (b + x1)), (2, .int x2)] := hl
  have B_16 : ∀ (cs1 : CS) (y0 : Int32), c_X4_runSource_b16 F T cs1 y0 = some (cs9, r9) → kK cs ≤ kK cs1 → kM cs ≤ kM cs1 → ∀ (Gh H : Heap) (locs : List Loc) (ls : Array Slot), va_P (dC, dI) vwCl (cW cB cI cJ cZ cS cO b cs1) H → va_D A (cW cB cI cJ cZ cS cO b cs1) → va_S A s.heap Gh [] → Gh.size = b + kK cs1 → va_S A Gh H locs → lv_has ls 5 [] → W p l e (headSpec (wsOf yX4_runSource cX4_runSource 5 (some .int)) ({ frames := n + 1 + 7, cells := kK cs9 - kK cs, slots := kM cs9 - kM cs, locals := 60 * (n + 1 + 7) } : Room)).room s m ([.ref (b + x0), .ref (b + x1), .int x2] : List Value).toArray below meth c H locs (kK cs1 - kK cs) (kM cs1 - kM cs) (MQ below (va_Qi (fun (x : Int32) (_ : Unit) => x = r9) (fun _ t_ => va_P (dC, dI) vwCl (cW cB cI cJ cZ cS cO b cs9) t_.heap ∧ va_D A (cW cB cI cJ cZ cS cO b cs9) ∧ b + kK cs9 ≤ t_.heap.size) A) ([.ref (b + x0), .ref (b + x1), .int x2] : List Value).toArray s (kK cs9 - kK cs) (kM cs9 - kM cs) A) (F0 m 16 ls [.int y0]) := by
    intro cs1 y0 h hmk hmm Gh H locs ls hP hD hG hgz hS hl
    obtain ⟨kb9, mb9⟩ := mo_c_X4_runSource_b16 F T (fun c_ x_0 x_1 x_2 z_ r_ h_ => (hT_X4_runQuery c_ x_0 x_1 x_2 z_ r_ h_).1) (fun c_ x_0 x_1 x_2 z_ r_ h_ => (hT_X4_runSelect c_ x_0 x_1 x_2 z_ r_ h_).1) (fun c_ x_0 x_1 x_2 z_ r_ h_ => (hT_X4_joinSources c_ x_0 x_1 x_2 z_ r_ h_).1) (fun c_ x_0 x_1 x_2 z_ r_ h_ => (hT_X4_runSource c_ x_0 x_1 x_2 z_ r_ h_).1) cs1 y0 cs9 r9 h
    unfold c_X4_runSource_b16 at h
    obtain ⟨e1, e2⟩ := Prod.mk.inj (Option.some.inj h)
    rw [e1] at hP hD
    have e3 := congrArg kK e1
    have e4 := congrArg kM e1
    refine W_cnt (c2 := kK cs9 - kK cs) (n2 := kM cs9 - kM cs) (by omega) (by omega) ?_
    exact W.iret (v := y0) hx hb hr (fun t_ ht hW => ⟨⟨y0, (), rfl, e2, by rw [ht]; exact hP, hD, by rw [ht]; have := hS.1; omega⟩, (hG.comp hS).F ht⟩) (hG.comp hS).2.2 dX4_runSource_16
  have L_22 : ∀ (lf_22 : Nat), ∀ (cs1 : CS) (u0 : Nat) (u1 : Nat) (u2 : Int32) (u3 : Int32) (u4 : Int32), c_X4_runSource_L22 F T lf_22 cs1 u0 u1 u2 u3 u4 = some (cs9, r9) → kK cs ≤ kK cs1 → kM cs ≤ kM cs1 → ∀ (Gh H : Heap) (locs : List Loc) (ls : Array Slot), va_P (dC, dI) vwCl (cW cB cI cJ cZ cS cO b cs1) H → va_D A (cW cB cI cJ cZ cS cO b cs1) → va_S A s.heap Gh [] → Gh.size = b + kK cs1 → va_S A Gh H locs → lv_has ls 5 [(0, .ref (b + u0)), (1, .ref (b + u1)), (2, .int u2), (3, .int u3), (4, .int u4)] → W p l e (headSpec (wsOf yX4_runSource cX4_runSource 5 (some .int)) ({ frames := n + 1 + 7, cells := kK cs9 - kK cs, slots := kM cs9 - kM cs, locals := 60 * (n + 1 + 7) } : Room)).room s m ([.ref (b + x0), .ref (b + x1), .int x2] : List Value).toArray below meth c H locs (kK cs1 - kK cs) (kM cs1 - kM cs) (MQ below (va_Qi (fun (x : Int32) (_ : Unit) => x = r9) (fun _ t_ => va_P (dC, dI) vwCl (cW cB cI cJ cZ cS cO b cs9) t_.heap ∧ va_D A (cW cB cI cJ cZ cS cO b cs9) ∧ b + kK cs9 ≤ t_.heap.size) A) ([.ref (b + x0), .ref (b + x1), .int x2] : List Value).toArray s (kK cs9 - kK cs) (kM cs9 - kM cs) A) (F0 m 22 ls []) := by
    intro lf_22
    induction lf_22 with
    | zero => intro cs1 u0 u1 u2 u3 u4 h; cases (show (none : Option (CS × Int32)) = _ from h)
    | succ lf_22 ih_22 =>
      have B_80 : ∀ (cs1 : CS) (u0 : Nat) (u1 : Nat) (u2 : Int32) (u3 : Int32) (u4 : Int32), c_X4_runSource_b80 F T (c_X4_runSource_L22 F T lf_22) cs1 u0 u1 u2 u3 u4 = some (cs9, r9) → kK cs ≤ kK cs1 → kM cs ≤ kM cs1 → ∀ (Gh H : Heap) (locs : List Loc) (ls : Array Slot), va_P (dC, dI) vwCl (cW cB cI cJ cZ cS cO b cs1) H → va_D A (cW cB cI cJ cZ cS cO b cs1) → va_S A s.heap Gh [] → Gh.size = b + kK cs1 → va_S A Gh H locs → lv_has ls 5 [(0, .ref (b + u0)), (1, .ref (b + u1)), (2, .int u2), (3, .int u3), (4, .int u4)] → W p l e (headSpec (wsOf yX4_runSource cX4_runSource 5 (some .int)) ({ frames := n + 1 + 7, cells := kK cs9 - kK cs, slots := kM cs9 - kM cs, locals := 60 * (n + 1 + 7) } : Room)).room s m ([.ref (b + x0), .ref (b + x1), .int x2] : List Value).toArray below meth c H locs (kK cs1 - kK cs) (kM cs1 - kM cs) (MQ below (va_Qi (fun (x : Int32) (_ : Unit) => x = r9) (fun _ t_ => va_P (dC, dI) vwCl (cW cB cI cJ cZ cS cO b cs9) t_.heap ∧ va_D A (cW cB cI cJ cZ cS cO b cs9) ∧ b + kK cs9 ≤ t_.heap.size) A) ([.ref (b + x0), .ref (b + x1), .int x2] : List Value).toArray s (kK cs9 - kK cs) (kM cs9 - kM cs) A) (F0 m 80 ls []) := by
        intro cs1 u0 u1 u2 u3 u4 h hmk hmm Gh H locs ls hP hD hG hgz hS hl
        obtain ⟨kb9, mb9⟩ := mo_c_X4_runSource_b80 F T (fun c_ x_0 x_1 x_2 z_ r_ h_ => (hT_X4_runQuery c_ x_0 x_1 x_2 z_ r_ h_).1) (fun c_ x_0 x_1 x_2 z_ r_ h_ => (hT_X4_runSelect c_ x_0 x_1 x_2 z_ r_ h_).1) (fun c_ x_0 x_1 x_2 z_ r_ h_ => (hT_X4_joinSources c_ x_0 x_1 x_2 z_ r_ h_).1) (fun c_ x_0 x_1 x_2 z_ r_ h_ => (hT_X4_runSource c_ x_0 x_1 x_2 z_ r_ h_).1) (c_X4_runSource_L22 F T lf_22) (mo_c_X4_runSource_L22 F T (fun c_ x_0 x_1 x_2 z_ r_ h_ => (hT_X4_runQuery c_ x_0 x_1 x_2 z_ r_ h_).1) (fun c_ x_0 x_1 x_2 z_ r_ h_ => (hT_X4_runSelect c_ x_0 x_1 x_2 z_ r_ h_).1) (fun c_ x_0 x_1 x_2 z_ r_ h_ => (hT_X4_joinSources c_ x_0 x_1 x_2 z_ r_ h_).1) (fun c_ x_0 x_1 x_2 z_ r_ h_ => (hT_X4_runSource c_ x_0 x_1 x_2 z_ r_ h_).1) lf_22) cs1 u0 u1 u2 u3 u4 cs9 r9 h
        unfold c_X4_runSource_b80 at h
        refine lv_iinc (v := u4 + 1) (lv' := [(4, .int (u4 + 1)), (0, .ref (b + u0)), (1, .ref (b + u1)), (2, .int u2), (3, .int u3)]) hx hb dX4_runSource_80 hl (k := 4) rfl rfl (by decide) rfl (fun ls hl => ?_)
        refine lv_goto (tgt := 22) hx hb dX4_runSource_83 (by decide) ?_
        refine W_cnt (c2 := kK cs1 - kK cs) (n2 := kM cs1 - kM cs) (by omega) (by omega) ?_
        exact ih_22 cs1 u0 u1 u2 u3 (u4 + 1) h (by omega) (by omega) _ _ _ _ hP hD hG (by omega) hS (lv_sub hl [1, 2, 3, 4, 0] rfl)
      have B_77 : ∀ (cs1 : CS) (u0 : Nat) (u1 : Nat) (u2 : Int32) (u3 : Int32) (u4 : Int32), c_X4_runSource_b77 F T (c_X4_runSource_L22 F T lf_22) cs1 u0 u1 u2 u3 u4 = some (cs9, r9) → kK cs ≤ kK cs1 → kM cs ≤ kM cs1 → ∀ (Gh H : Heap) (locs : List Loc) (ls : Array Slot), va_P (dC, dI) vwCl (cW cB cI cJ cZ cS cO b cs1) H → va_D A (cW cB cI cJ cZ cS cO b cs1) → va_S A s.heap Gh [] → Gh.size = b + kK cs1 → va_S A Gh H locs → lv_has ls 5 [(0, .ref (b + u0)), (1, .ref (b + u1)), (2, .int u2), (3, .int u3), (4, .int u4)] → W p l e (headSpec (wsOf yX4_runSource cX4_runSource 5 (some .int)) ({ frames := n + 1 + 7, cells := kK cs9 - kK cs, slots := kM cs9 - kM cs, locals := 60 * (n + 1 + 7) } : Room)).room s m ([.ref (b + x0), .ref (b + x1), .int x2] : List Value).toArray below meth c H locs (kK cs1 - kK cs) (kM cs1 - kM cs) (MQ below (va_Qi (fun (x : Int32) (_ : Unit) => x = r9) (fun _ t_ => va_P (dC, dI) vwCl (cW cB cI cJ cZ cS cO b cs9) t_.heap ∧ va_D A (cW cB cI cJ cZ cS cO b cs9) ∧ b + kK cs9 ≤ t_.heap.size) A) ([.ref (b + x0), .ref (b + x1), .int x2] : List Value).toArray s (kK cs9 - kK cs) (kM cs9 - kM cs) A) (F0 m 77 ls []) := by
        intro cs1 u0 u1 u2 u3 u4 h hmk hmm Gh H locs ls hP hD hG hgz hS hl
        obtain ⟨kb9, mb9⟩ := mo_c_X4_runSource_b77 F T (fun c_ x_0 x_1 x_2 z_ r_ h_ => (hT_X4_runQuery c_ x_0 x_1 x_2 z_ r_ h_).1) (fun c_ x_0 x_1 x_2 z_ r_ h_ => (hT_X4_runSelect c_ x_0 x_1 x_2 z_ r_ h_).1) (fun c_ x_0 x_1 x_2 z_ r_ h_ => (hT_X4_joinSources c_ x_0 x_1 x_2 z_ r_ h_).1) (fun c_ x_0 x_1 x_2 z_ r_ h_ => (hT_X4_runSource c_ x_0 x_1 x_2 z_ r_ h_).1) (c_X4_runSource_L22 F T lf_22) (mo_c_X4_runSource_L22 F T (fun c_ x_0 x_1 x_2 z_ r_ h_ => (hT_X4_runQuery c_ x_0 x_1 x_2 z_ r_ h_).1) (fun c_ x_0 x_1 x_2 z_ r_ h_ => (hT_X4_runSelect c_ x_0 x_1 x_2 z_ r_ h_).1) (fun c_ x_0 x_1 x_2 z_ r_ h_ => (hT_X4_joinSources c_ x_0 x_1 x_2 z_ r_ h_).1) (fun c_ x_0 x_1 x_2 z_ r_ h_ => (hT_X4_runSource c_ x_0 x_1 x_2 z_ r_ h_).1) lf_22) cs1 u0 u1 u2 u3 u4 cs9 r9 h
        unfold c_X4_runSource_b77 at h
        refine lv_iinc (v := u3 + 1) (lv' := [(3, .int (u3 + 1)), (0, .ref (b + u0)), (1, .ref (b + u1)), (2, .int u2), (4, .int u4)]) hx hb dX4_runSource_77 hl (k := 3) rfl rfl (by decide) rfl (fun ls hl => ?_)
        refine W_cnt (c2 := kK cs1 - kK cs) (n2 := kM cs1 - kM cs) (by omega) (by omega) ?_
        exact B_80 cs1 u0 u1 u2 (u3 + 1) u4 h (by omega) (by omega) _ _ _ _ hP hD hG (by omega) hS (lv_sub hl [1, 2, 3, 0, 4] rfl)
      intro cs1 u0 u1 u2 u3 u4 h hmk hmm Gh H locs ls hP hD hG hgz hS hl
      obtain ⟨kb9, mb9⟩ := mo_c_X4_runSource_L22 F T (fun c_ x_0 x_1 x_2 z_ r_ h_ => (hT_X4_runQuery c_ x_0 x_1 x_2 z_ r_ h_).1) (fun c_ x_0 x_1 x_2 z_ r_ h_ => (hT_X4_runSelect c_ x_0 x_1 x_2 z_ r_ h_).1) (fun c_ x_0 x_1 x_2 z_ r_ h_ => (hT_X4_joinSources c_ x_0 x_1 x_2 z_ r_ h_).1) (fun c_ x_0 x_1 x_2 z_ r_ h_ => (hT_X4_runSource c_ x_0 x_1 x_2 z_ r_ h_).1) (lf_22 + 1) cs1 u0 u1 u2 u3 u4 cs9 r9 h
      rw [c_X4_runSource_L22] at h
      refine lv_iload hx hb dX4_runSource_22 (lv_at hl 4 rfl) ?_
      refine lv_bipush (v := 8) hx hb dX4_runSource_24 (by decide) ?_
      refine lv_icmp_ge (tgt := 86) hx hb dX4_runSource_26 (by decide) (fun c_1 => ?_) (fun c_1 => ?_)
      · skip
        replace h := (if_pos c_1).symm.trans h
        refine lv_iload_n hx hb dX4_runSource_86 rfl (lv_at hl 3 rfl) ?_
        obtain ⟨e1, e2⟩ := Prod.mk.inj (Option.some.inj h)
        rw [e1] at hP hD
        have e3 := congrArg kK e1
        have e4 := congrArg kM e1
        refine W_cnt (c2 := kK cs9 - kK cs) (n2 := kM cs9 - kM cs) (by omega) (by omega) ?_
        exact W.iret (v := u3) hx hb hr (fun t_ ht hW => ⟨⟨u3, (), rfl, e2, by rw [ht]; exact hP, hD, by rw [ht]; have := hS.1; omega⟩, (hG.comp hS).F ht⟩) (hG.comp hS).2.2 dX4_runSource_87
      · skip
        replace h := (if_neg c_1).symm.trans h
        refine lv_aload_n hx hb dX4_runSource_29 rfl (lv_at hl 0 rfl) ?_
        replace h := ob h; obtain ⟨v_2, hv_2, h⟩ := h
        refine fg_X4_9 hx hb hts hown hK hP hv_2 dX4_runSource_30 ?_
        refine lv_aload_n hx hb dX4_runSource_33 rfl (lv_at hl 1 rfl) ?_
        replace h := ob h; obtain ⟨v_3, hv_3, h⟩ := h
        refine fg_X4_199 hx hb hts hown hK hP hv_3 dX4_runSource_34 ?_
        refine lv_iload hx hb dX4_runSource_37 (lv_at hl 4 rfl) ?_
        refine lv_aload_n hx hb dX4_runSource_39 rfl (lv_at hl 1 rfl) ?_
        replace h := ob h; obtain ⟨v_4, hv_4, h⟩ := h
        refine fg_X4_202 hx hb hts hown hK hP hv_4 dX4_runSource_40 ?_
        replace h := ob h; obtain ⟨i_6, hi_6, h⟩ := h
        subst hi_6
        replace h := ob h; obtain ⟨w_7, hw_7, h⟩ := h
        replace h := ob h; obtain ⟨v_5, hv_5, h⟩ := h
        refine cbvI (As := [.int v_3, .int u4, .long v_4]) hx hb hml hts hown hK hP hD hS hG hA (by omega) (by omega) hZ (X := 8) (by decide) rfl (ckE_some hw_7) (sc_X7_shows l dC dI cB cI cJ cZ cS cO b K V fz F cs1 i_6 v_3 u4 v_4 v_5 hv_5) (cw_X4_X7_shows hts (fr := 2) (by show 2 + 1 ≤ n + 1 + 7; omega) (by show 8 + (9 + 11) + 60 * (2) ≤ 60 * (n + 1 + 7); omega)) rfl hl.1 (Nat.le_of_ble_eq_true rfl) ⟨by show kK cs1 - kK cs ≤ kK cs9 - kK cs; omega, by show kM cs1 - kM cs ≤ kM cs9 - kM cs; omega⟩ dX4_runSource_43 (fun H locs hP hD hG hgz hS => ?_)
        refine lv_if_eq (tgt := 80) hx hb dX4_runSource_46 (by decide) (fun c_8 => ?_) (fun c_8 => ?_)
        · skip
          replace h := (if_pos c_8).symm.trans h
          refine W_cnt (c2 := kK cs1 - kK cs) (n2 := kM cs1 - kM cs) (by omega) (by omega) ?_
          exact B_80 cs1 u0 u1 u2 u3 u4 h (by omega) (by omega) _ _ _ _ hP hD hG (by omega) hS (lv_sub hl [0, 1, 2, 3, 4] rfl)
        · skip
          replace h := (if_neg c_8).symm.trans h
          refine lv_aload_n hx hb dX4_runSource_49 rfl (lv_at hl 0 rfl) ?_
          replace h := ob h; obtain ⟨v_9, hv_9, h⟩ := h
          refine fg_X4_9 hx hb hts hown hK hP hv_9 dX4_runSource_50 ?_
          refine lv_aload_n hx hb dX4_runSource_53 rfl (lv_at hl 1 rfl) ?_
          replace h := ob h; obtain ⟨v_10, hv_10, h⟩ := h
          refine fg_X4_199 hx hb hts hown hK hP hv_10 dX4_runSource_54 ?_
          refine lv_iload hx hb dX4_runSource_57 (lv_at hl 4 rfl) ?_
          refine lv_aload_n hx hb dX4_runSource_59 rfl (lv_at hl 0 rfl) ?_
          replace h := ob h; obtain ⟨v_11, hv_11, h⟩ := h
          refine fg_X4_19 hx hb hts hown hK hP hv_11 dX4_runSource_60 ?_
          refine lv_iload_n hx hb dX4_runSource_63 rfl (lv_at hl 2 rfl) ?_
          refine lv_iload_n hx hb dX4_runSource_64 rfl (lv_at hl 3 rfl) ?_
          refine lv_aload_n hx hb dX4_runSource_65 rfl (lv_at hl 1 rfl) ?_
          replace h := ob h; obtain ⟨v_12, hv_12, h⟩ := h
          refine fg_X4_212 hx hb hts hown hK hP hv_12 dX4_runSource_66 ?_
          replace h := ob h; obtain ⟨i_13, hi_13, h⟩ := h
          subst hi_13
          replace h := ob h; obtain ⟨v_14, hv_14, h⟩ := h
          refine fg_X4_29 hx hb hts hown hK hP hv_14 dX4_runSource_69 ?_
          refine lv_imul hx hb dX4_runSource_72 ?_
          refine lv_iadd hx hb dX4_runSource_73 ?_
          replace h := ob h; obtain ⟨i_15, hi_15, h⟩ := h
          subst hi_15
          replace h := ob h; obtain ⟨i_17, hi_17, h⟩ := h
          subst hi_17
          replace h := ob h; obtain ⟨w_18, hw_18, h⟩ := h
          replace h := ob h; obtain ⟨cs_16, hv_16, h⟩ := h
          obtain ⟨qk_16, qm_16⟩ := mo_c_X7_copyRow F cs1 i_17 v_10 u4 i_15 (u2 + (u3 * v_14)) cs_16 hv_16
          obtain ⟨k9_16, m9_16⟩ := mo_c_X4_runSource_b77 F T (fun c_ x_0 x_1 x_2 z_ r_ h_ => (hT_X4_runQuery c_ x_0 x_1 x_2 z_ r_ h_).1) (fun c_ x_0 x_1 x_2 z_ r_ h_ => (hT_X4_runSelect c_ x_0 x_1 x_2 z_ r_ h_).1) (fun c_ x_0 x_1 x_2 z_ r_ h_ => (hT_X4_joinSources c_ x_0 x_1 x_2 z_ r_ h_).1) (fun c_ x_0 x_1 x_2 z_ r_ h_ => (hT_X4_runSource c_ x_0 x_1 x_2 z_ r_ h_).1) (c_X4_runSource_L22 F T lf_22) (mo_c_X4_runSource_L22 F T (fun c_ x_0 x_1 x_2 z_ r_ h_ => (hT_X4_runQuery c_ x_0 x_1 x_2 z_ r_ h_).1) (fun c_ x_0 x_1 x_2 z_ r_ h_ => (hT_X4_runSelect c_ x_0 x_1 x_2 z_ r_ h_).1) (fun c_ x_0 x_1 x_2 z_ r_ h_ => (hT_X4_joinSources c_ x_0 x_1 x_2 z_ r_ h_).1) (fun c_ x_0 x_1 x_2 z_ r_ h_ => (hT_X4_runSource c_ x_0 x_1 x_2 z_ r_ h_).1) lf_22) cs_16 u0 u1 u2 u3 u4 cs9 r9 h
          refine cavV (As := [.int v_10, .int u4, .ref (b + i_15), .int (u2 + (u3 * v_14))]) hx hb hml hts hown hK hP hD hS hG hA (by omega) (by omega) hZ (X := 8) (by decide) rfl (ckE_some hw_18) (sa_X7_copyRow l dC dI cB cI cJ cZ cS cO b K V fz F cs1 i_17 v_10 u4 i_15 (u2 + (u3 * v_14)) cs_16 hv_16) (cw_X4_X7_copyRow hts (fr := 5) (by show 5 + 1 ≤ n + 1 + 7; omega) (by show 8 + (7 + 11) + 60 * (5) ≤ 60 * (n + 1 + 7); omega)) rfl hl.1 (Nat.le_of_ble_eq_true rfl) ⟨by show kK cs1 - kK cs + (kK cs_16 - kK cs1) ≤ kK cs9 - kK cs; omega, by show kM cs1 - kM cs + (kM cs_16 - kM cs1) ≤ kM cs9 - kM cs; omega⟩ dX4_runSource_74 (fun H locs hP hD hG hgz hS => ?_)
          refine W_cnt (c2 := kK cs_16 - kK cs) (n2 := kM cs_16 - kM cs) (by omega) (by omega) ?_
          exact B_77 cs_16 u0 u1 u2 u3 u4 h (by omega) (by omega) _ _ _ _ hP hD hG (by omega) hS (lv_sub hl [0, 1, 2, 3, 4] rfl)
  have h := hf
  unfold cb_X4_runSource at h
  refine W_cnt (c2 := kK cs - kK cs) (n2 := kM cs - kM cs) (by omega) (by omega) ?_
  refine lv_aload_n hx hb dX4_runSource_0 rfl (lv_at hl 1 rfl) ?_
  replace h := ob h; obtain ⟨v_19, hv_19, h⟩ := h
  refine fg_X4_191 hx hb hts hown hK hP hv_19 dX4_runSource_1 ?_
  cases v_19 with
  | none =>
    replace h := oc_n.symm.trans h
    refine lv_ifnullN (tgt := 17) hx hb dX4_runSource_4 (by decide) ?_
    refine lv_iconst (v := 0) hx hb dX4_runSource_17 (by decide) ?_
    refine lv_istore_n (lv' := [(3, .int 0), (0, .ref (b + x0)), (1, .ref (b + x1)), (2, .int x2)]) hx hb dX4_runSource_18 rfl hl (by decide) rfl (fun ls hl => ?_)
    refine lv_iconst (v := 0) hx hb dX4_runSource_19 (by decide) ?_
    refine lv_istore (lv' := [(4, .int 0), (3, .int 0), (0, .ref (b + x0)), (1, .ref (b + x1)), (2, .int x2)]) hx hb dX4_runSource_20 hl (by decide) rfl (fun ls hl => ?_)
    refine W_cnt (c2 := kK cs - kK cs) (n2 := kM cs - kM cs) (by omega) (by omega) ?_
    exact L_22 F cs x0 x1 x2 0 0 h (by omega) (by omega) _ _ _ _ hP hD hG (by omega) hS (lv_sub hl [2, 3, 4, 1, 0] rfl)
  | some i_20 =>
    replace h := oc_s.symm.trans h
    refine lv_ifnull hx hb dX4_runSource_4 ?_
    refine lv_aload_n hx hb dX4_runSource_7 rfl (lv_at hl 0 rfl) ?_
    refine lv_aload_n hx hb dX4_runSource_8 rfl (lv_at hl 1 rfl) ?_
    replace h := ob h; obtain ⟨v_21, hv_21, h⟩ := h
    refine fg_X4_191 hx hb hts hown hK hP hv_21 dX4_runSource_9 ?_
    refine lv_iload_n hx hb dX4_runSource_12 rfl (lv_at hl 2 rfl) ?_
    replace h := ob h; obtain ⟨i_22, hi_22, h⟩ := h
    subst hi_22
    replace h := ob h; obtain ⟨w_24, hw_24, h⟩ := h
    replace h := ob h; obtain ⟨z_23, hv_23, h⟩ := h
    obtain ⟨qk_23, qm_23⟩ := (hT_X4_runQuery cs x0 i_22 x2 z_23.1 z_23.2 hv_23).1
    obtain ⟨k9_23, m9_23⟩ := mo_c_X4_runSource_b16 F T (fun c_ x_0 x_1 x_2 z_ r_ h_ => (hT_X4_runQuery c_ x_0 x_1 x_2 z_ r_ h_).1) (fun c_ x_0 x_1 x_2 z_ r_ h_ => (hT_X4_runSelect c_ x_0 x_1 x_2 z_ r_ h_).1) (fun c_ x_0 x_1 x_2 z_ r_ h_ => (hT_X4_joinSources c_ x_0 x_1 x_2 z_ r_ h_).1) (fun c_ x_0 x_1 x_2 z_ r_ h_ => (hT_X4_runSource c_ x_0 x_1 x_2 z_ r_ h_).1) z_23.1 z_23.2 cs9 r9 h
    refine cavI (As := [.ref (b + i_22), .int x2]) hx hb hml hts hown hK hP hD hS hG hA (by omega) (by omega) hZ (X := 5) (by decide) rfl (ckE_some hw_24) (hT_X4_runQuery cs x0 i_22 x2 z_23.1 z_23.2 hv_23) (cw_X4_X4_runQuery hts (fr := n + 7) (by show n + 7 + 1 ≤ n + 1 + 7; omega) (by show 8 + (9 + 11) + 60 * (n + 7) ≤ 60 * (n + 1 + 7); omega)) rfl hl.1 (Nat.le_of_ble_eq_true rfl) ⟨by show kK cs - kK cs + (kK z_23.1 - kK cs) ≤ kK cs9 - kK cs; omega, by show kM cs - kM cs + (kM z_23.1 - kM cs) ≤ kM cs9 - kM cs; omega⟩ dX4_runSource_13 (fun H locs hP hD hG hgz hS => ?_)
    refine W_cnt (c2 := kK z_23.1 - kK cs) (n2 := kM z_23.1 - kM cs) (by omega) (by omega) ?_
    exact B_16 z_23.1 z_23.2 h (by omega) (by omega) _ _ _ _ hP hD hG (by omega) hS (lv_sub hl [] rfl)
def c_X4_runQuery (F n : Nat) (cs : CS) (x0 : Nat) (x1 : Nat) (x2 : Int32) : Option (CS × Int32) := (tabc_X4_runQuery F n).1 cs x0 x1 x2
def c_X4_runSelect (F n : Nat) (cs : CS) (x0 : Nat) (x1 : Nat) (x2 : Int32) : Option (CS × Int32) := (tabc_X4_runQuery F n).2.1 cs x0 x1 x2
def c_X4_joinSources (F n : Nat) (cs : CS) (x0 : Nat) (x1 : Nat) (x2 : Int32) : Option (CS × Int32) := (tabc_X4_runQuery F n).2.2.1 cs x0 x1 x2
def c_X4_runSource (F n : Nat) (cs : CS) (x0 : Nat) (x1 : Nat) (x2 : Int32) : Option (CS × Int32) := (tabc_X4_runQuery F n).2.2.2 cs x0 x1 x2
theorem mog_X4_runQuery (F : Nat) : ∀ n : Nat, (∀ (cs : CS) (x0 : Nat) (x1 : Nat) (x2 : Int32) (cs9 : CS) (r9 : Int32), (tabc_X4_runQuery F n).1 cs x0 x1 x2 = some (cs9, r9) → kK cs ≤ kK cs9 ∧ kM cs ≤ kM cs9) ∧ (∀ (cs : CS) (x0 : Nat) (x1 : Nat) (x2 : Int32) (cs9 : CS) (r9 : Int32), (tabc_X4_runQuery F n).2.1 cs x0 x1 x2 = some (cs9, r9) → kK cs ≤ kK cs9 ∧ kM cs ≤ kM cs9) ∧ (∀ (cs : CS) (x0 : Nat) (x1 : Nat) (x2 : Int32) (cs9 : CS) (r9 : Int32), (tabc_X4_runQuery F n).2.2.1 cs x0 x1 x2 = some (cs9, r9) → kK cs ≤ kK cs9 ∧ kM cs ≤ kM cs9) ∧ (∀ (cs : CS) (x0 : Nat) (x1 : Nat) (x2 : Int32) (cs9 : CS) (r9 : Int32), (tabc_X4_runQuery F n).2.2.2 cs x0 x1 x2 = some (cs9, r9) → kK cs ≤ kK cs9 ∧ kM cs ≤ kM cs9) := by
  intro n
  induction n with
  | zero => exact ⟨fun _ _ _ _ _ _ h => (by cases (show (none : Option (CS × Int32)) = _ from h)), fun _ _ _ _ _ _ h => (by cases (show (none : Option (CS × Int32)) = _ from h)), fun _ _ _ _ _ _ h => (by cases (show (none : Option (CS × Int32)) = _ from h)), fun _ _ _ _ _ _ h => (by cases (show (none : Option (CS × Int32)) = _ from h))⟩
  | succ n ih =>
    obtain ⟨hh0, hh1, hh2, hh3⟩ := ih
    exact ⟨fun cs w0 w1 w2 w3 w4 h => mo_cb_X4_runQuery F (tabc_X4_runQuery F n) hh0 hh1 hh2 hh3 cs w0 w1 w2 w3 w4 h, fun cs w0 w1 w2 w3 w4 h => mo_cb_X4_runSelect F (tabc_X4_runQuery F n) hh0 hh1 hh2 hh3 cs w0 w1 w2 w3 w4 h, fun cs w0 w1 w2 w3 w4 h => mo_cb_X4_joinSources F (tabc_X4_runQuery F n) hh0 hh1 hh2 hh3 cs w0 w1 w2 w3 w4 h, fun cs w0 w1 w2 w3 w4 h => mo_cb_X4_runSource F (tabc_X4_runQuery F n) hh0 hh1 hh2 hh3 cs w0 w1 w2 w3 w4 h⟩
theorem mo_c_X4_runQuery (F n : Nat) (cs : CS) (x0 : Nat) (x1 : Nat) (x2 : Int32) (cs9 : CS) (r9 : Int32) (h : c_X4_runQuery F n cs x0 x1 x2 = some (cs9, r9)) : kK cs ≤ kK cs9 ∧ kM cs ≤ kM cs9 := (mog_X4_runQuery F n).1 cs x0 x1 x2 cs9 r9 h
theorem mo_c_X4_runSelect (F n : Nat) (cs : CS) (x0 : Nat) (x1 : Nat) (x2 : Int32) (cs9 : CS) (r9 : Int32) (h : c_X4_runSelect F n cs x0 x1 x2 = some (cs9, r9)) : kK cs ≤ kK cs9 ∧ kM cs ≤ kM cs9 := (mog_X4_runQuery F n).2.1 cs x0 x1 x2 cs9 r9 h
theorem mo_c_X4_joinSources (F n : Nat) (cs : CS) (x0 : Nat) (x1 : Nat) (x2 : Int32) (cs9 : CS) (r9 : Int32) (h : c_X4_joinSources F n cs x0 x1 x2 = some (cs9, r9)) : kK cs ≤ kK cs9 ∧ kM cs ≤ kM cs9 := (mog_X4_runQuery F n).2.2.1 cs x0 x1 x2 cs9 r9 h
theorem mo_c_X4_runSource (F n : Nat) (cs : CS) (x0 : Nat) (x1 : Nat) (x2 : Int32) (cs9 : CS) (r9 : Int32) (h : c_X4_runSource F n cs x0 x1 x2 = some (cs9, r9)) : kK cs ≤ kK cs9 ∧ kM cs ≤ kM cs9 := (mog_X4_runQuery F n).2.2.2 cs x0 x1 x2 cs9 r9 h
theorem sga_X4_runQuery (l : Launch) (dC : Nat → ClassId) (dI : Nat → Nat → Nat) (cB cI cJ cZ cS cO : ClassId) (b : Nat) (K V : Nat → Nat) (fz : Value) (F : Nat) : ∀ n : Nat, (∀ (cs : CS) (x0 : Nat) (x1 : Nat) (x2 : Int32) (cs9 : CS) (r9 : Int32), (tabc_X4_runQuery F n).1 cs x0 x1 x2 = some (cs9, r9) → oaI l dC dI cB cI cJ cZ cS cO b K V fz yX4_runQuery (wsOf yX4_runQuery cX4_runQuery 9 (some .int)) (n + 7) [.ref (b + x0), .ref (b + x1), .int x2] cs cs9 r9) ∧ (∀ (cs : CS) (x0 : Nat) (x1 : Nat) (x2 : Int32) (cs9 : CS) (r9 : Int32), (tabc_X4_runQuery F n).2.1 cs x0 x1 x2 = some (cs9, r9) → oaI l dC dI cB cI cJ cZ cS cO b K V fz yX4_runSelect (wsOf yX4_runSelect cX4_runSelect 5 (some .int)) (n + 7) [.ref (b + x0), .ref (b + x1), .int x2] cs cs9 r9) ∧ (∀ (cs : CS) (x0 : Nat) (x1 : Nat) (x2 : Int32) (cs9 : CS) (r9 : Int32), (tabc_X4_runQuery F n).2.2.1 cs x0 x1 x2 = some (cs9, r9) → oaI l dC dI cB cI cJ cZ cS cO b K V fz yX4_joinSources (wsOf yX4_joinSources cX4_joinSources 8 (some .int)) (n + 7) [.ref (b + x0), .ref (b + x1), .int x2] cs cs9 r9) ∧ (∀ (cs : CS) (x0 : Nat) (x1 : Nat) (x2 : Int32) (cs9 : CS) (r9 : Int32), (tabc_X4_runQuery F n).2.2.2 cs x0 x1 x2 = some (cs9, r9) → oaI l dC dI cB cI cJ cZ cS cO b K V fz yX4_runSource (wsOf yX4_runSource cX4_runSource 5 (some .int)) (n + 7) [.ref (b + x0), .ref (b + x1), .int x2] cs cs9 r9) := by
  intro n
  induction n with
  | zero => exact ⟨fun _ _ _ _ _ _ h => (by cases (show (none : Option (CS × Int32)) = _ from h)), fun _ _ _ _ _ _ h => (by cases (show (none : Option (CS × Int32)) = _ from h)), fun _ _ _ _ _ _ h => (by cases (show (none : Option (CS × Int32)) = _ from h)), fun _ _ _ _ _ _ h => (by cases (show (none : Option (CS × Int32)) = _ from h))⟩
  | succ n ih =>
    obtain ⟨hh0, hh1, hh2, hh3⟩ := ih
    exact ⟨fun cs w0 w1 w2 w3 w4 hf => sba_X4_runQuery l dC dI cB cI cJ cZ cS cO b K V fz F n (tabc_X4_runQuery F n) hh0 hh1 hh2 hh3 cs w0 w1 w2 w3 w4 hf, fun cs w0 w1 w2 w3 w4 hf => sba_X4_runSelect l dC dI cB cI cJ cZ cS cO b K V fz F n (tabc_X4_runQuery F n) hh0 hh1 hh2 hh3 cs w0 w1 w2 w3 w4 hf, fun cs w0 w1 w2 w3 w4 hf => sba_X4_joinSources l dC dI cB cI cJ cZ cS cO b K V fz F n (tabc_X4_runQuery F n) hh0 hh1 hh2 hh3 cs w0 w1 w2 w3 w4 hf, fun cs w0 w1 w2 w3 w4 hf => sba_X4_runSource l dC dI cB cI cJ cZ cS cO b K V fz F n (tabc_X4_runQuery F n) hh0 hh1 hh2 hh3 cs w0 w1 w2 w3 w4 hf⟩
theorem sa_X4_runQuery (l : Launch) (dC : Nat → ClassId) (dI : Nat → Nat → Nat) (cB cI cJ cZ cS cO : ClassId) (b : Nat) (K V : Nat → Nat) (fz : Value) (F n : Nat) (cs : CS) (x0 : Nat) (x1 : Nat) (x2 : Int32) (cs9 : CS) (r9 : Int32) (hf : c_X4_runQuery F n cs x0 x1 x2 = some (cs9, r9)) : oaI l dC dI cB cI cJ cZ cS cO b K V fz yX4_runQuery (wsOf yX4_runQuery cX4_runQuery 9 (some .int)) (n + 7) [.ref (b + x0), .ref (b + x1), .int x2] cs cs9 r9 := (sga_X4_runQuery l dC dI cB cI cJ cZ cS cO b K V fz F n).1 cs x0 x1 x2 cs9 r9 hf
theorem sa_X4_runSelect (l : Launch) (dC : Nat → ClassId) (dI : Nat → Nat → Nat) (cB cI cJ cZ cS cO : ClassId) (b : Nat) (K V : Nat → Nat) (fz : Value) (F n : Nat) (cs : CS) (x0 : Nat) (x1 : Nat) (x2 : Int32) (cs9 : CS) (r9 : Int32) (hf : c_X4_runSelect F n cs x0 x1 x2 = some (cs9, r9)) : oaI l dC dI cB cI cJ cZ cS cO b K V fz yX4_runSelect (wsOf yX4_runSelect cX4_runSelect 5 (some .int)) (n + 7) [.ref (b + x0), .ref (b + x1), .int x2] cs cs9 r9 := (sga_X4_runQuery l dC dI cB cI cJ cZ cS cO b K V fz F n).2.1 cs x0 x1 x2 cs9 r9 hf
theorem sa_X4_joinSources (l : Launch) (dC : Nat → ClassId) (dI : Nat → Nat → Nat) (cB cI cJ cZ cS cO : ClassId) (b : Nat) (K V : Nat → Nat) (fz : Value) (F n : Nat) (cs : CS) (x0 : Nat) (x1 : Nat) (x2 : Int32) (cs9 : CS) (r9 : Int32) (hf : c_X4_joinSources F n cs x0 x1 x2 = some (cs9, r9)) : oaI l dC dI cB cI cJ cZ cS cO b K V fz yX4_joinSources (wsOf yX4_joinSources cX4_joinSources 8 (some .int)) (n + 7) [.ref (b + x0), .ref (b + x1), .int x2] cs cs9 r9 := (sga_X4_runQuery l dC dI cB cI cJ cZ cS cO b K V fz F n).2.2.1 cs x0 x1 x2 cs9 r9 hf
theorem sa_X4_runSource (l : Launch) (dC : Nat → ClassId) (dI : Nat → Nat → Nat) (cB cI cJ cZ cS cO : ClassId) (b : Nat) (K V : Nat → Nat) (fz : Value) (F n : Nat) (cs : CS) (x0 : Nat) (x1 : Nat) (x2 : Int32) (cs9 : CS) (r9 : Int32) (hf : c_X4_runSource F n cs x0 x1 x2 = some (cs9, r9)) : oaI l dC dI cB cI cJ cZ cS cO b K V fz yX4_runSource (wsOf yX4_runSource cX4_runSource 5 (some .int)) (n + 7) [.ref (b + x0), .ref (b + x1), .int x2] cs cs9 r9 := (sga_X4_runQuery l dC dI cB cI cJ cZ cS cO b K V fz F n).2.2.2 cs x0 x1 x2 cs9 r9 hf
