/-! the class, mirrored -/
abbrev TC_X9_readExpr : Type := (CS → Nat → Option (CS × Int32)) × (CS → Nat → Option CS) × (CS → Nat → Option CS) × (CS → Nat → Option CS) × (CS → Nat → Option CS) × (CS → Nat → Option CS) × (CS → Nat → Option CS) × (CS → Nat → Option CS) × (CS → Nat → Option CS) × (CS → Nat → Option CS) × (CS → Nat → Option CS) × (CS → Nat → Int32 → Int32 → Int32 → Int32 → Option CS)
theorem dX9_readExpr_0 : decode cX9_readExpr 0 = .ok (.aload_n 0, 1) := by decide +kernel
theorem dX9_readExpr_1 : decode cX9_readExpr 1 = .ok (.getfield 26, 3) := by decide +kernel
theorem dX9_readExpr_4 : decode cX9_readExpr 4 = .ok (.getfield 296, 3) := by decide +kernel
theorem dX9_readExpr_7 : decode cX9_readExpr 7 = .ok (.istore_n 1, 1) := by decide +kernel
theorem dX9_readExpr_8 : decode cX9_readExpr 8 = .ok (.aload_n 0, 1) := by decide +kernel
theorem dX9_readExpr_9 : decode cX9_readExpr 9 = .ok (.invokevirtual 118, 3) := by decide +kernel
theorem dX9_readExpr_12 : decode cX9_readExpr 12 = .ok (.istore_n 2, 1) := by decide +kernel
theorem dX9_readExpr_13 : decode cX9_readExpr 13 = .ok (.aload_n 0, 1) := by decide +kernel
theorem dX9_readExpr_14 : decode cX9_readExpr 14 = .ok (.invokevirtual 302, 3) := by decide +kernel
theorem dX9_readExpr_17 : decode cX9_readExpr 17 = .ok (.iconst 0, 1) := by decide +kernel
theorem dX9_readExpr_18 : decode cX9_readExpr 18 = .ok (.istore_n 3, 1) := by decide +kernel
theorem dX9_readExpr_19 : decode cX9_readExpr 19 = .ok (.iload_n 3, 1) := by decide +kernel
theorem dX9_readExpr_20 : decode cX9_readExpr 20 = .ok (.sipush 2000, 3) := by decide +kernel
theorem dX9_readExpr_23 : decode cX9_readExpr 23 = .ok (.if_icmp .ge 50, 3) := by decide +kernel
theorem dX9_readExpr_26 : decode cX9_readExpr 26 = .ok (.aload_n 0, 1) := by decide +kernel
theorem dX9_readExpr_27 : decode cX9_readExpr 27 = .ok (.invokevirtual 114, 3) := by decide +kernel
theorem dX9_readExpr_30 : decode cX9_readExpr 30 = .ok (.bipush 29, 2) := by decide +kernel
theorem dX9_readExpr_32 : decode cX9_readExpr 32 = .ok (.if_icmp .ne 41, 3) := by decide +kernel
theorem dX9_readExpr_35 : decode cX9_readExpr 35 = .ok (.aload_n 0, 1) := by decide +kernel
theorem dX9_readExpr_36 : decode cX9_readExpr 36 = .ok (.invokevirtual 118, 3) := by decide +kernel
theorem dX9_readExpr_39 : decode cX9_readExpr 39 = .ok (.istore 4, 2) := by decide +kernel
theorem dX9_readExpr_41 : decode cX9_readExpr 41 = .ok (.aload_n 0, 1) := by decide +kernel
theorem dX9_readExpr_42 : decode cX9_readExpr 42 = .ok (.dup, 1) := by decide +kernel
theorem dX9_readExpr_43 : decode cX9_readExpr 43 = .ok (.getfield 99, 3) := by decide +kernel
theorem dX9_readExpr_46 : decode cX9_readExpr 46 = .ok (.iconst 1, 1) := by decide +kernel
theorem dX9_readExpr_47 : decode cX9_readExpr 47 = .ok (.iadd, 1) := by decide +kernel
theorem dX9_readExpr_48 : decode cX9_readExpr 48 = .ok (.putfield 99, 3) := by decide +kernel
theorem dX9_readExpr_51 : decode cX9_readExpr 51 = .ok (.aload_n 0, 1) := by decide +kernel
theorem dX9_readExpr_52 : decode cX9_readExpr 52 = .ok (.invokevirtual 302, 3) := by decide +kernel
theorem dX9_readExpr_55 : decode cX9_readExpr 55 = .ok (.aload_n 0, 1) := by decide +kernel
theorem dX9_readExpr_56 : decode cX9_readExpr 56 = .ok (.bipush 29, 2) := by decide +kernel
theorem dX9_readExpr_58 : decode cX9_readExpr 58 = .ok (.iload_n 1, 1) := by decide +kernel
theorem dX9_readExpr_59 : decode cX9_readExpr 59 = .ok (.iload_n 2, 1) := by decide +kernel
theorem dX9_readExpr_60 : decode cX9_readExpr 60 = .ok (.iload 4, 2) := by decide +kernel
theorem dX9_readExpr_62 : decode cX9_readExpr 62 = .ok (.iconst 2, 1) := by decide +kernel
theorem dX9_readExpr_63 : decode cX9_readExpr 63 = .ok (.invokevirtual 305, 3) := by decide +kernel
theorem dX9_readExpr_66 : decode cX9_readExpr 66 = .ok (.pop, 1) := by decide +kernel
theorem dX9_readExpr_67 : decode cX9_readExpr 67 = .ok (.iinc 3 1, 3) := by decide +kernel
theorem dX9_readExpr_70 : decode cX9_readExpr 70 = .ok (.goto (-51), 3) := by decide +kernel
theorem dX9_readExpr_73 : decode cX9_readExpr 73 = .ok (.aload_n 0, 1) := by decide +kernel
theorem dX9_readExpr_74 : decode cX9_readExpr 74 = .ok (.getfield 26, 3) := by decide +kernel
theorem dX9_readExpr_77 : decode cX9_readExpr 77 = .ok (.getfield 296, 3) := by decide +kernel
theorem dX9_readExpr_80 : decode cX9_readExpr 80 = .ok (.iconst 1, 1) := by decide +kernel
theorem dX9_readExpr_81 : decode cX9_readExpr 81 = .ok (.isub, 1) := by decide +kernel
theorem dX9_readExpr_82 : decode cX9_readExpr 82 = .ok (.ireturn, 1) := by decide +kernel
def c_X9_readExpr_b73 (F : Nat) (T : TC_X9_readExpr) (cs1 : CS) (u0 : Nat) : Option (CS × Int32) := Option.bind (gR cs1 10 322 u0) fun v_1 => Option.bind (v_1) fun i_2 => Option.bind (gI cs1 2 64 i_2) fun v_3 => some (cs1, v_3 - 1)
def c_X9_readExpr_L19 (F : Nat) (T : TC_X9_readExpr) : Nat → CS → Nat → Int32 → Int32 → Int32 → Option (CS × Int32)
  | 0, _, _, _, _, _ => none
  | lf_19 + 1, cs1, u0, u1, u2, u3 => if 2000 ≤ u3 then (c_X9_readExpr_b73 F T cs1 u0) else (Option.bind (ckE cs1 10 u0) fun _ => Option.bind (c_X9_kind F cs1 u0) fun v_5 => if v_5 = 29 then (Option.bind (ckE cs1 10 u0) fun _ => Option.bind (c_X9_here F cs1 u0) fun v_8 => Option.bind (gI cs1 10 328 u0) fun v_10 => Option.bind (pI cs1 10 328 u0 (v_10 + 1)) fun cs_11 => Option.bind (ckE cs_11 10 u0) fun _ => Option.bind (T.2.1 cs_11 u0) fun cs_12 => Option.bind (ckE cs_12 10 u0) fun _ => Option.bind (c_X9_complete F cs_12 u0 29 u1 u2 v_8 2) fun z_14 => (c_X9_readExpr_L19 F T lf_19) z_14.1 u0 u1 u2 (u3 + 1)) else (c_X9_readExpr_b73 F T cs1 u0))
def cb_X9_readExpr (F : Nat) (T : TC_X9_readExpr) (cs : CS) (x0 : Nat) : Option (CS × Int32) := Option.bind (gR cs 10 322 x0) fun v_16 => Option.bind (v_16) fun i_17 => Option.bind (gI cs 2 64 i_17) fun v_18 => Option.bind (ckE cs 10 x0) fun _ => Option.bind (c_X9_here F cs x0) fun v_19 => Option.bind (ckE cs 10 x0) fun _ => Option.bind (T.2.1 cs x0) fun cs_21 => c_X9_readExpr_L19 F T F cs_21 x0 v_18 v_19 0
theorem dX9_readConjunction_0 : decode cX9_readConjunction 0 = .ok (.aload_n 0, 1) := by decide +kernel
theorem dX9_readConjunction_1 : decode cX9_readConjunction 1 = .ok (.getfield 26, 3) := by decide +kernel
theorem dX9_readConjunction_4 : decode cX9_readConjunction 4 = .ok (.getfield 296, 3) := by decide +kernel
theorem dX9_readConjunction_7 : decode cX9_readConjunction 7 = .ok (.istore_n 1, 1) := by decide +kernel
theorem dX9_readConjunction_8 : decode cX9_readConjunction 8 = .ok (.aload_n 0, 1) := by decide +kernel
theorem dX9_readConjunction_9 : decode cX9_readConjunction 9 = .ok (.invokevirtual 118, 3) := by decide +kernel
theorem dX9_readConjunction_12 : decode cX9_readConjunction 12 = .ok (.istore_n 2, 1) := by decide +kernel
theorem dX9_readConjunction_13 : decode cX9_readConjunction 13 = .ok (.aload_n 0, 1) := by decide +kernel
theorem dX9_readConjunction_14 : decode cX9_readConjunction 14 = .ok (.invokevirtual 309, 3) := by decide +kernel
theorem dX9_readConjunction_17 : decode cX9_readConjunction 17 = .ok (.iconst 0, 1) := by decide +kernel
theorem dX9_readConjunction_18 : decode cX9_readConjunction 18 = .ok (.istore_n 3, 1) := by decide +kernel
theorem dX9_readConjunction_19 : decode cX9_readConjunction 19 = .ok (.iload_n 3, 1) := by decide +kernel
theorem dX9_readConjunction_20 : decode cX9_readConjunction 20 = .ok (.sipush 2000, 3) := by decide +kernel
theorem dX9_readConjunction_23 : decode cX9_readConjunction 23 = .ok (.if_icmp .ge 50, 3) := by decide +kernel
theorem dX9_readConjunction_26 : decode cX9_readConjunction 26 = .ok (.aload_n 0, 1) := by decide +kernel
theorem dX9_readConjunction_27 : decode cX9_readConjunction 27 = .ok (.invokevirtual 114, 3) := by decide +kernel
theorem dX9_readConjunction_30 : decode cX9_readConjunction 30 = .ok (.bipush 28, 2) := by decide +kernel
theorem dX9_readConjunction_32 : decode cX9_readConjunction 32 = .ok (.if_icmp .ne 41, 3) := by decide +kernel
theorem dX9_readConjunction_35 : decode cX9_readConjunction 35 = .ok (.aload_n 0, 1) := by decide +kernel
theorem dX9_readConjunction_36 : decode cX9_readConjunction 36 = .ok (.invokevirtual 118, 3) := by decide +kernel
theorem dX9_readConjunction_39 : decode cX9_readConjunction 39 = .ok (.istore 4, 2) := by decide +kernel
theorem dX9_readConjunction_41 : decode cX9_readConjunction 41 = .ok (.aload_n 0, 1) := by decide +kernel
theorem dX9_readConjunction_42 : decode cX9_readConjunction 42 = .ok (.dup, 1) := by decide +kernel
theorem dX9_readConjunction_43 : decode cX9_readConjunction 43 = .ok (.getfield 99, 3) := by decide +kernel
theorem dX9_readConjunction_46 : decode cX9_readConjunction 46 = .ok (.iconst 1, 1) := by decide +kernel
theorem dX9_readConjunction_47 : decode cX9_readConjunction 47 = .ok (.iadd, 1) := by decide +kernel
theorem dX9_readConjunction_48 : decode cX9_readConjunction 48 = .ok (.putfield 99, 3) := by decide +kernel
theorem dX9_readConjunction_51 : decode cX9_readConjunction 51 = .ok (.aload_n 0, 1) := by decide +kernel
theorem dX9_readConjunction_52 : decode cX9_readConjunction 52 = .ok (.invokevirtual 309, 3) := by decide +kernel
theorem dX9_readConjunction_55 : decode cX9_readConjunction 55 = .ok (.aload_n 0, 1) := by decide +kernel
theorem dX9_readConjunction_56 : decode cX9_readConjunction 56 = .ok (.bipush 28, 2) := by decide +kernel
theorem dX9_readConjunction_58 : decode cX9_readConjunction 58 = .ok (.iload_n 1, 1) := by decide +kernel
theorem dX9_readConjunction_59 : decode cX9_readConjunction 59 = .ok (.iload_n 2, 1) := by decide +kernel
theorem dX9_readConjunction_60 : decode cX9_readConjunction 60 = .ok (.iload 4, 2) := by decide +kernel
theorem dX9_readConjunction_62 : decode cX9_readConjunction 62 = .ok (.iconst 2, 1) := by decide +kernel
theorem dX9_readConjunction_63 : decode cX9_readConjunction 63 = .ok (.invokevirtual 305, 3) := by decide +kernel
theorem dX9_readConjunction_66 : decode cX9_readConjunction 66 = .ok (.pop, 1) := by decide +kernel
theorem dX9_readConjunction_67 : decode cX9_readConjunction 67 = .ok (.iinc 3 1, 3) := by decide +kernel
theorem dX9_readConjunction_70 : decode cX9_readConjunction 70 = .ok (.goto (-51), 3) := by decide +kernel
theorem dX9_readConjunction_73 : decode cX9_readConjunction 73 = .ok (.return_, 1) := by decide +kernel
def c_X9_readConjunction_b73 (F : Nat) (T : TC_X9_readExpr) (cs1 : CS) : Option CS := some cs1
def c_X9_readConjunction_L19 (F : Nat) (T : TC_X9_readExpr) : Nat → CS → Nat → Int32 → Int32 → Int32 → Option CS
  | 0, _, _, _, _, _ => none
  | lf_19 + 1, cs1, u0, u1, u2, u3 => if 2000 ≤ u3 then (c_X9_readConjunction_b73 F T cs1) else (Option.bind (ckE cs1 10 u0) fun _ => Option.bind (c_X9_kind F cs1 u0) fun v_2 => if v_2 = 28 then (Option.bind (ckE cs1 10 u0) fun _ => Option.bind (c_X9_here F cs1 u0) fun v_5 => Option.bind (gI cs1 10 328 u0) fun v_7 => Option.bind (pI cs1 10 328 u0 (v_7 + 1)) fun cs_8 => Option.bind (ckE cs_8 10 u0) fun _ => Option.bind (T.2.2.1 cs_8 u0) fun cs_9 => Option.bind (ckE cs_9 10 u0) fun _ => Option.bind (c_X9_complete F cs_9 u0 28 u1 u2 v_5 2) fun z_11 => (c_X9_readConjunction_L19 F T lf_19) z_11.1 u0 u1 u2 (u3 + 1)) else (c_X9_readConjunction_b73 F T cs1))
def cb_X9_readConjunction (F : Nat) (T : TC_X9_readExpr) (cs : CS) (x0 : Nat) : Option CS := Option.bind (gR cs 10 322 x0) fun v_13 => Option.bind (v_13) fun i_14 => Option.bind (gI cs 2 64 i_14) fun v_15 => Option.bind (ckE cs 10 x0) fun _ => Option.bind (c_X9_here F cs x0) fun v_16 => Option.bind (ckE cs 10 x0) fun _ => Option.bind (T.2.2.1 cs x0) fun cs_18 => c_X9_readConjunction_L19 F T F cs_18 x0 v_15 v_16 0
theorem dX9_readNegation_0 : decode cX9_readNegation 0 = .ok (.aload_n 0, 1) := by decide +kernel
theorem dX9_readNegation_1 : decode cX9_readNegation 1 = .ok (.invokevirtual 114, 3) := by decide +kernel
theorem dX9_readNegation_4 : decode cX9_readNegation 4 = .ok (.bipush 25, 2) := by decide +kernel
theorem dX9_readNegation_6 : decode cX9_readNegation 6 = .ok (.if_icmp .eq 8, 3) := by decide +kernel
theorem dX9_readNegation_9 : decode cX9_readNegation 9 = .ok (.aload_n 0, 1) := by decide +kernel
theorem dX9_readNegation_10 : decode cX9_readNegation 10 = .ok (.invokevirtual 312, 3) := by decide +kernel
theorem dX9_readNegation_13 : decode cX9_readNegation 13 = .ok (.return_, 1) := by decide +kernel
theorem dX9_readNegation_14 : decode cX9_readNegation 14 = .ok (.aload_n 0, 1) := by decide +kernel
theorem dX9_readNegation_15 : decode cX9_readNegation 15 = .ok (.getfield 26, 3) := by decide +kernel
theorem dX9_readNegation_18 : decode cX9_readNegation 18 = .ok (.getfield 296, 3) := by decide +kernel
theorem dX9_readNegation_21 : decode cX9_readNegation 21 = .ok (.istore_n 1, 1) := by decide +kernel
theorem dX9_readNegation_22 : decode cX9_readNegation 22 = .ok (.aload_n 0, 1) := by decide +kernel
theorem dX9_readNegation_23 : decode cX9_readNegation 23 = .ok (.invokevirtual 118, 3) := by decide +kernel
theorem dX9_readNegation_26 : decode cX9_readNegation 26 = .ok (.istore_n 2, 1) := by decide +kernel
theorem dX9_readNegation_27 : decode cX9_readNegation 27 = .ok (.aload_n 0, 1) := by decide +kernel
theorem dX9_readNegation_28 : decode cX9_readNegation 28 = .ok (.invokevirtual 266, 3) := by decide +kernel
theorem dX9_readNegation_31 : decode cX9_readNegation 31 = .ok (.aload_n 0, 1) := by decide +kernel
theorem dX9_readNegation_32 : decode cX9_readNegation 32 = .ok (.bipush 25, 2) := by decide +kernel
theorem dX9_readNegation_34 : decode cX9_readNegation 34 = .ok (.invokevirtual 48, 3) := by decide +kernel
theorem dX9_readNegation_37 : decode cX9_readNegation 37 = .ok (.pop, 1) := by decide +kernel
theorem dX9_readNegation_38 : decode cX9_readNegation 38 = .ok (.aload_n 0, 1) := by decide +kernel
theorem dX9_readNegation_39 : decode cX9_readNegation 39 = .ok (.getfield 93, 3) := by decide +kernel
theorem dX9_readNegation_42 : decode cX9_readNegation 42 = .ok (.ifCond .ne 7, 3) := by decide +kernel
theorem dX9_readNegation_45 : decode cX9_readNegation 45 = .ok (.aload_n 0, 1) := by decide +kernel
theorem dX9_readNegation_46 : decode cX9_readNegation 46 = .ok (.invokevirtual 309, 3) := by decide +kernel
theorem dX9_readNegation_49 : decode cX9_readNegation 49 = .ok (.aload_n 0, 1) := by decide +kernel
theorem dX9_readNegation_50 : decode cX9_readNegation 50 = .ok (.dup, 1) := by decide +kernel
theorem dX9_readNegation_51 : decode cX9_readNegation 51 = .ok (.getfield 275, 3) := by decide +kernel
theorem dX9_readNegation_54 : decode cX9_readNegation 54 = .ok (.iconst 1, 1) := by decide +kernel
theorem dX9_readNegation_55 : decode cX9_readNegation 55 = .ok (.isub, 1) := by decide +kernel
theorem dX9_readNegation_56 : decode cX9_readNegation 56 = .ok (.putfield 275, 3) := by decide +kernel
theorem dX9_readNegation_59 : decode cX9_readNegation 59 = .ok (.aload_n 0, 1) := by decide +kernel
theorem dX9_readNegation_60 : decode cX9_readNegation 60 = .ok (.bipush 25, 2) := by decide +kernel
theorem dX9_readNegation_62 : decode cX9_readNegation 62 = .ok (.iload_n 1, 1) := by decide +kernel
theorem dX9_readNegation_63 : decode cX9_readNegation 63 = .ok (.iload_n 2, 1) := by decide +kernel
theorem dX9_readNegation_64 : decode cX9_readNegation 64 = .ok (.iload_n 2, 1) := by decide +kernel
theorem dX9_readNegation_65 : decode cX9_readNegation 65 = .ok (.iconst 1, 1) := by decide +kernel
theorem dX9_readNegation_66 : decode cX9_readNegation 66 = .ok (.invokevirtual 305, 3) := by decide +kernel
theorem dX9_readNegation_69 : decode cX9_readNegation 69 = .ok (.pop, 1) := by decide +kernel
theorem dX9_readNegation_70 : decode cX9_readNegation 70 = .ok (.return_, 1) := by decide +kernel
def c_X9_readNegation_b49 (F : Nat) (T : TC_X9_readExpr) (cs1 : CS) (u0 : Nat) (u1 : Int32) (u2 : Int32) : Option CS := Option.bind (gI cs1 10 329 u0) fun v_1 => Option.bind (pI cs1 10 329 u0 (v_1 - 1)) fun cs_2 => Option.bind (ckE cs_2 10 u0) fun _ => Option.bind (c_X9_complete F cs_2 u0 25 u1 u2 u2 1) fun z_3 => some z_3.1
def cb_X9_readNegation (F : Nat) (T : TC_X9_readExpr) (cs : CS) (x0 : Nat) : Option CS := Option.bind (ckE cs 10 x0) fun _ => Option.bind (c_X9_kind F cs x0) fun v_5 => if v_5 = 25 then (Option.bind (gR cs 10 322 x0) fun v_8 => Option.bind (v_8) fun i_9 => Option.bind (gI cs 2 64 i_9) fun v_10 => Option.bind (ckE cs 10 x0) fun _ => Option.bind (c_X9_here F cs x0) fun v_11 => Option.bind (ckE cs 10 x0) fun _ => Option.bind (c_X9_deepen F cs x0) fun cs_13 => Option.bind (ckE cs_13 10 x0) fun _ => Option.bind (c_X9_accept F cs_13 x0 25) fun z_15 => Option.bind (gI z_15.1 10 320 x0) fun v_17 => if v_17 = 0 then (Option.bind (ckE z_15.1 10 x0) fun _ => Option.bind (T.2.2.1 z_15.1 x0) fun cs_19 => c_X9_readNegation_b49 F T cs_19 x0 v_10 v_11) else (c_X9_readNegation_b49 F T z_15.1 x0 v_10 v_11)) else (Option.bind (ckE cs 10 x0) fun _ => Option.bind (T.2.2.2.1 cs x0) fun cs_21 => some cs_21)
theorem dX9_readTest_0 : decode cX9_readTest 0 = .ok (.aload_n 0, 1) := by decide +kernel
theorem dX9_readTest_1 : decode cX9_readTest 1 = .ok (.getfield 26, 3) := by decide +kernel
theorem dX9_readTest_4 : decode cX9_readTest 4 = .ok (.getfield 296, 3) := by decide +kernel
theorem dX9_readTest_7 : decode cX9_readTest 7 = .ok (.istore_n 1, 1) := by decide +kernel
theorem dX9_readTest_8 : decode cX9_readTest 8 = .ok (.aload_n 0, 1) := by decide +kernel
theorem dX9_readTest_9 : decode cX9_readTest 9 = .ok (.invokevirtual 118, 3) := by decide +kernel
theorem dX9_readTest_12 : decode cX9_readTest 12 = .ok (.istore_n 2, 1) := by decide +kernel
theorem dX9_readTest_13 : decode cX9_readTest 13 = .ok (.aload_n 0, 1) := by decide +kernel
theorem dX9_readTest_14 : decode cX9_readTest 14 = .ok (.invokevirtual 315, 3) := by decide +kernel
theorem dX9_readTest_17 : decode cX9_readTest 17 = .ok (.aload_n 0, 1) := by decide +kernel
theorem dX9_readTest_18 : decode cX9_readTest 18 = .ok (.invokevirtual 118, 3) := by decide +kernel
theorem dX9_readTest_21 : decode cX9_readTest 21 = .ok (.istore_n 3, 1) := by decide +kernel
theorem dX9_readTest_22 : decode cX9_readTest 22 = .ok (.aload_n 0, 1) := by decide +kernel
theorem dX9_readTest_23 : decode cX9_readTest 23 = .ok (.invokevirtual 114, 3) := by decide +kernel
theorem dX9_readTest_26 : decode cX9_readTest 26 = .ok (.istore 4, 2) := by decide +kernel
theorem dX9_readTest_28 : decode cX9_readTest 28 = .ok (.iload 4, 2) := by decide +kernel
theorem dX9_readTest_30 : decode cX9_readTest 30 = .ok (.tableswitch 252 24 55 #[170, 218, 252, 240, 252, 252, 252, 252, 252, 252, 252, 252, 252, 252, 252, 252, 252, 252, 252, 252, 252, 252, 252, 252, 252, 252, 142, 142, 142, 142, 142, 142], 142) := by decide +kernel
theorem dX9_readTest_172 : decode cX9_readTest 172 = .ok (.aload_n 0, 1) := by decide +kernel
theorem dX9_readTest_173 : decode cX9_readTest 173 = .ok (.dup, 1) := by decide +kernel
theorem dX9_readTest_174 : decode cX9_readTest 174 = .ok (.getfield 99, 3) := by decide +kernel
theorem dX9_readTest_177 : decode cX9_readTest 177 = .ok (.iconst 1, 1) := by decide +kernel
theorem dX9_readTest_178 : decode cX9_readTest 178 = .ok (.iadd, 1) := by decide +kernel
theorem dX9_readTest_179 : decode cX9_readTest 179 = .ok (.putfield 99, 3) := by decide +kernel
theorem dX9_readTest_182 : decode cX9_readTest 182 = .ok (.aload_n 0, 1) := by decide +kernel
theorem dX9_readTest_183 : decode cX9_readTest 183 = .ok (.invokevirtual 315, 3) := by decide +kernel
theorem dX9_readTest_186 : decode cX9_readTest 186 = .ok (.aload_n 0, 1) := by decide +kernel
theorem dX9_readTest_187 : decode cX9_readTest 187 = .ok (.iload 4, 2) := by decide +kernel
theorem dX9_readTest_189 : decode cX9_readTest 189 = .ok (.iload_n 1, 1) := by decide +kernel
theorem dX9_readTest_190 : decode cX9_readTest 190 = .ok (.iload_n 2, 1) := by decide +kernel
theorem dX9_readTest_191 : decode cX9_readTest 191 = .ok (.iload_n 3, 1) := by decide +kernel
theorem dX9_readTest_192 : decode cX9_readTest 192 = .ok (.iconst 2, 1) := by decide +kernel
theorem dX9_readTest_193 : decode cX9_readTest 193 = .ok (.invokevirtual 305, 3) := by decide +kernel
theorem dX9_readTest_196 : decode cX9_readTest 196 = .ok (.pop, 1) := by decide +kernel
theorem dX9_readTest_197 : decode cX9_readTest 197 = .ok (.goto 85, 3) := by decide +kernel
theorem dX9_readTest_200 : decode cX9_readTest 200 = .ok (.aload_n 0, 1) := by decide +kernel
theorem dX9_readTest_201 : decode cX9_readTest 201 = .ok (.dup, 1) := by decide +kernel
theorem dX9_readTest_202 : decode cX9_readTest 202 = .ok (.getfield 99, 3) := by decide +kernel
theorem dX9_readTest_205 : decode cX9_readTest 205 = .ok (.iconst 1, 1) := by decide +kernel
theorem dX9_readTest_206 : decode cX9_readTest 206 = .ok (.iadd, 1) := by decide +kernel
theorem dX9_readTest_207 : decode cX9_readTest 207 = .ok (.putfield 99, 3) := by decide +kernel
theorem dX9_readTest_210 : decode cX9_readTest 210 = .ok (.aload_n 0, 1) := by decide +kernel
theorem dX9_readTest_211 : decode cX9_readTest 211 = .ok (.bipush 25, 2) := by decide +kernel
theorem dX9_readTest_213 : decode cX9_readTest 213 = .ok (.invokevirtual 48, 3) := by decide +kernel
theorem dX9_readTest_216 : decode cX9_readTest 216 = .ok (.ifCond .eq 8, 3) := by decide +kernel
theorem dX9_readTest_219 : decode cX9_readTest 219 = .ok (.bipush 59, 2) := by decide +kernel
theorem dX9_readTest_221 : decode cX9_readTest 221 = .ok (.goto 5, 3) := by decide +kernel
theorem dX9_readTest_224 : decode cX9_readTest 224 = .ok (.bipush 24, 2) := by decide +kernel
theorem dX9_readTest_226 : decode cX9_readTest 226 = .ok (.istore 5, 2) := by decide +kernel
theorem dX9_readTest_228 : decode cX9_readTest 228 = .ok (.aload_n 0, 1) := by decide +kernel
theorem dX9_readTest_229 : decode cX9_readTest 229 = .ok (.bipush 26, 2) := by decide +kernel
theorem dX9_readTest_231 : decode cX9_readTest 231 = .ok (.invokevirtual 60, 3) := by decide +kernel
theorem dX9_readTest_234 : decode cX9_readTest 234 = .ok (.aload_n 0, 1) := by decide +kernel
theorem dX9_readTest_235 : decode cX9_readTest 235 = .ok (.iload 5, 2) := by decide +kernel
theorem dX9_readTest_237 : decode cX9_readTest 237 = .ok (.iload_n 1, 1) := by decide +kernel
theorem dX9_readTest_238 : decode cX9_readTest 238 = .ok (.iload_n 2, 1) := by decide +kernel
theorem dX9_readTest_239 : decode cX9_readTest 239 = .ok (.iload_n 3, 1) := by decide +kernel
theorem dX9_readTest_240 : decode cX9_readTest 240 = .ok (.iconst 1, 1) := by decide +kernel
theorem dX9_readTest_241 : decode cX9_readTest 241 = .ok (.invokevirtual 305, 3) := by decide +kernel
theorem dX9_readTest_244 : decode cX9_readTest 244 = .ok (.pop, 1) := by decide +kernel
theorem dX9_readTest_245 : decode cX9_readTest 245 = .ok (.goto 37, 3) := by decide +kernel
theorem dX9_readTest_248 : decode cX9_readTest 248 = .ok (.aload_n 0, 1) := by decide +kernel
theorem dX9_readTest_249 : decode cX9_readTest 249 = .ok (.dup, 1) := by decide +kernel
theorem dX9_readTest_250 : decode cX9_readTest 250 = .ok (.getfield 99, 3) := by decide +kernel
theorem dX9_readTest_253 : decode cX9_readTest 253 = .ok (.iconst 1, 1) := by decide +kernel
theorem dX9_readTest_254 : decode cX9_readTest 254 = .ok (.iadd, 1) := by decide +kernel
theorem dX9_readTest_255 : decode cX9_readTest 255 = .ok (.putfield 99, 3) := by decide +kernel
theorem dX9_readTest_258 : decode cX9_readTest 258 = .ok (.aload_n 0, 1) := by decide +kernel
theorem dX9_readTest_259 : decode cX9_readTest 259 = .ok (.bipush 60, 2) := by decide +kernel
theorem dX9_readTest_261 : decode cX9_readTest 261 = .ok (.iload_n 1, 1) := by decide +kernel
theorem dX9_readTest_262 : decode cX9_readTest 262 = .ok (.iload_n 2, 1) := by decide +kernel
theorem dX9_readTest_263 : decode cX9_readTest 263 = .ok (.iload_n 3, 1) := by decide +kernel
theorem dX9_readTest_264 : decode cX9_readTest 264 = .ok (.invokevirtual 318, 3) := by decide +kernel
theorem dX9_readTest_267 : decode cX9_readTest 267 = .ok (.goto 15, 3) := by decide +kernel
theorem dX9_readTest_270 : decode cX9_readTest 270 = .ok (.aload_n 0, 1) := by decide +kernel
theorem dX9_readTest_271 : decode cX9_readTest 271 = .ok (.bipush 27, 2) := by decide +kernel
theorem dX9_readTest_273 : decode cX9_readTest 273 = .ok (.iload_n 1, 1) := by decide +kernel
theorem dX9_readTest_274 : decode cX9_readTest 274 = .ok (.iload_n 2, 1) := by decide +kernel
theorem dX9_readTest_275 : decode cX9_readTest 275 = .ok (.iload_n 3, 1) := by decide +kernel
theorem dX9_readTest_276 : decode cX9_readTest 276 = .ok (.invokevirtual 318, 3) := by decide +kernel
theorem dX9_readTest_279 : decode cX9_readTest 279 = .ok (.goto 3, 3) := by decide +kernel
theorem dX9_readTest_282 : decode cX9_readTest 282 = .ok (.return_, 1) := by decide +kernel
def c_X9_readTest_b282 (F : Nat) (T : TC_X9_readExpr) (cs1 : CS) : Option CS := some cs1
def c_X9_readTest_b172 (F : Nat) (T : TC_X9_readExpr) (cs1 : CS) (u0 : Nat) (u1 : Int32) (u2 : Int32) (u3 : Int32) (u4 : Int32) : Option CS := Option.bind (gI cs1 10 328 u0) fun v_1 => Option.bind (pI cs1 10 328 u0 (v_1 + 1)) fun cs_2 => Option.bind (ckE cs_2 10 u0) fun _ => Option.bind (T.2.2.2.2.1 cs_2 u0) fun cs_3 => Option.bind (ckE cs_3 10 u0) fun _ => Option.bind (c_X9_complete F cs_3 u0 u4 u1 u2 u3 2) fun z_5 => c_X9_readTest_b282 F T z_5.1
def c_X9_readTest_b226 (F : Nat) (T : TC_X9_readExpr) (cs1 : CS) (u0 : Nat) (u1 : Int32) (u2 : Int32) (u3 : Int32) (y0 : Int32) : Option CS := Option.bind (ckE cs1 10 u0) fun _ => Option.bind (c_X9_expect F cs1 u0 26) fun cs_7 => Option.bind (ckE cs_7 10 u0) fun _ => Option.bind (c_X9_complete F cs_7 u0 y0 u1 u2 u3 1) fun z_9 => c_X9_readTest_b282 F T z_9.1
def cb_X9_readTest (F : Nat) (T : TC_X9_readExpr) (cs : CS) (x0 : Nat) : Option CS := Option.bind (gR cs 10 322 x0) fun v_11 => Option.bind (v_11) fun i_12 => Option.bind (gI cs 2 64 i_12) fun v_13 => Option.bind (ckE cs 10 x0) fun _ => Option.bind (c_X9_here F cs x0) fun v_14 => Option.bind (ckE cs 10 x0) fun _ => Option.bind (T.2.2.2.2.1 cs x0) fun cs_16 => Option.bind (ckE cs_16 10 x0) fun _ => Option.bind (c_X9_here F cs_16 x0) fun v_18 => Option.bind (ckE cs_16 10 x0) fun _ => Option.bind (c_X9_kind F cs_16 x0) fun v_20 => if v_20 = 24 then (Option.bind (gI cs_16 10 328 x0) fun v_23 => Option.bind (pI cs_16 10 328 x0 (v_23 + 1)) fun cs_24 => Option.bind (ckE cs_24 10 x0) fun _ => Option.bind (c_X9_accept F cs_24 x0 25) fun z_25 => if z_25.2 = 0 then (c_X9_readTest_b226 F T z_25.1 x0 v_13 v_14 v_18 24) else (c_X9_readTest_b226 F T z_25.1 x0 v_13 v_14 v_18 59)) else (if v_20 = 25 then (Option.bind (gI cs_16 10 328 x0) fun v_29 => Option.bind (pI cs_16 10 328 x0 (v_29 + 1)) fun cs_30 => Option.bind (ckE cs_30 10 x0) fun _ => Option.bind (T.2.2.2.2.2.2.2.2.2.2.2 cs_30 x0 60 v_13 v_14 v_18) fun cs_31 => c_X9_readTest_b282 F T cs_31) else (if v_20 = 27 then (Option.bind (ckE cs_16 10 x0) fun _ => Option.bind (T.2.2.2.2.2.2.2.2.2.2.2 cs_16 x0 27 v_13 v_14 v_18) fun cs_34 => c_X9_readTest_b282 F T cs_34) else (if v_20 = 50 then (c_X9_readTest_b172 F T cs_16 x0 v_13 v_14 v_18 v_20) else (if v_20 = 51 then (c_X9_readTest_b172 F T cs_16 x0 v_13 v_14 v_18 v_20) else (if v_20 = 52 then (c_X9_readTest_b172 F T cs_16 x0 v_13 v_14 v_18 v_20) else (if v_20 = 53 then (c_X9_readTest_b172 F T cs_16 x0 v_13 v_14 v_18 v_20) else (if v_20 = 54 then (c_X9_readTest_b172 F T cs_16 x0 v_13 v_14 v_18 v_20) else (if v_20 = 55 then (c_X9_readTest_b172 F T cs_16 x0 v_13 v_14 v_18 v_20) else (c_X9_readTest_b282 F T cs_16)))))))))
theorem dX9_readSum_0 : decode cX9_readSum 0 = .ok (.aload_n 0, 1) := by decide +kernel
theorem dX9_readSum_1 : decode cX9_readSum 1 = .ok (.getfield 26, 3) := by decide +kernel
theorem dX9_readSum_4 : decode cX9_readSum 4 = .ok (.getfield 296, 3) := by decide +kernel
theorem dX9_readSum_7 : decode cX9_readSum 7 = .ok (.istore_n 1, 1) := by decide +kernel
theorem dX9_readSum_8 : decode cX9_readSum 8 = .ok (.aload_n 0, 1) := by decide +kernel
theorem dX9_readSum_9 : decode cX9_readSum 9 = .ok (.invokevirtual 118, 3) := by decide +kernel
theorem dX9_readSum_12 : decode cX9_readSum 12 = .ok (.istore_n 2, 1) := by decide +kernel
theorem dX9_readSum_13 : decode cX9_readSum 13 = .ok (.aload_n 0, 1) := by decide +kernel
theorem dX9_readSum_14 : decode cX9_readSum 14 = .ok (.invokevirtual 322, 3) := by decide +kernel
theorem dX9_readSum_17 : decode cX9_readSum 17 = .ok (.iconst 0, 1) := by decide +kernel
theorem dX9_readSum_18 : decode cX9_readSum 18 = .ok (.istore_n 3, 1) := by decide +kernel
theorem dX9_readSum_19 : decode cX9_readSum 19 = .ok (.iload_n 3, 1) := by decide +kernel
theorem dX9_readSum_20 : decode cX9_readSum 20 = .ok (.sipush 2000, 3) := by decide +kernel
theorem dX9_readSum_23 : decode cX9_readSum 23 = .ok (.if_icmp .ge 65, 3) := by decide +kernel
theorem dX9_readSum_26 : decode cX9_readSum 26 = .ok (.aload_n 0, 1) := by decide +kernel
theorem dX9_readSum_27 : decode cX9_readSum 27 = .ok (.invokevirtual 114, 3) := by decide +kernel
theorem dX9_readSum_30 : decode cX9_readSum 30 = .ok (.bipush 45, 2) := by decide +kernel
theorem dX9_readSum_32 : decode cX9_readSum 32 = .ok (.if_icmp .eq 12, 3) := by decide +kernel
theorem dX9_readSum_35 : decode cX9_readSum 35 = .ok (.aload_n 0, 1) := by decide +kernel
theorem dX9_readSum_36 : decode cX9_readSum 36 = .ok (.invokevirtual 114, 3) := by decide +kernel
theorem dX9_readSum_39 : decode cX9_readSum 39 = .ok (.bipush 46, 2) := by decide +kernel
theorem dX9_readSum_41 : decode cX9_readSum 41 = .ok (.if_icmp .ne 47, 3) := by decide +kernel
theorem dX9_readSum_44 : decode cX9_readSum 44 = .ok (.aload_n 0, 1) := by decide +kernel
theorem dX9_readSum_45 : decode cX9_readSum 45 = .ok (.invokevirtual 114, 3) := by decide +kernel
theorem dX9_readSum_48 : decode cX9_readSum 48 = .ok (.istore 4, 2) := by decide +kernel
theorem dX9_readSum_50 : decode cX9_readSum 50 = .ok (.aload_n 0, 1) := by decide +kernel
theorem dX9_readSum_51 : decode cX9_readSum 51 = .ok (.invokevirtual 118, 3) := by decide +kernel
theorem dX9_readSum_54 : decode cX9_readSum 54 = .ok (.istore 5, 2) := by decide +kernel
theorem dX9_readSum_56 : decode cX9_readSum 56 = .ok (.aload_n 0, 1) := by decide +kernel
theorem dX9_readSum_57 : decode cX9_readSum 57 = .ok (.dup, 1) := by decide +kernel
theorem dX9_readSum_58 : decode cX9_readSum 58 = .ok (.getfield 99, 3) := by decide +kernel
theorem dX9_readSum_61 : decode cX9_readSum 61 = .ok (.iconst 1, 1) := by decide +kernel
theorem dX9_readSum_62 : decode cX9_readSum 62 = .ok (.iadd, 1) := by decide +kernel
theorem dX9_readSum_63 : decode cX9_readSum 63 = .ok (.putfield 99, 3) := by decide +kernel
theorem dX9_readSum_66 : decode cX9_readSum 66 = .ok (.aload_n 0, 1) := by decide +kernel
theorem dX9_readSum_67 : decode cX9_readSum 67 = .ok (.invokevirtual 322, 3) := by decide +kernel
theorem dX9_readSum_70 : decode cX9_readSum 70 = .ok (.aload_n 0, 1) := by decide +kernel
theorem dX9_readSum_71 : decode cX9_readSum 71 = .ok (.iload 4, 2) := by decide +kernel
theorem dX9_readSum_73 : decode cX9_readSum 73 = .ok (.iload_n 1, 1) := by decide +kernel
theorem dX9_readSum_74 : decode cX9_readSum 74 = .ok (.iload_n 2, 1) := by decide +kernel
theorem dX9_readSum_75 : decode cX9_readSum 75 = .ok (.iload 5, 2) := by decide +kernel
theorem dX9_readSum_77 : decode cX9_readSum 77 = .ok (.iconst 2, 1) := by decide +kernel
theorem dX9_readSum_78 : decode cX9_readSum 78 = .ok (.invokevirtual 305, 3) := by decide +kernel
theorem dX9_readSum_81 : decode cX9_readSum 81 = .ok (.pop, 1) := by decide +kernel
theorem dX9_readSum_82 : decode cX9_readSum 82 = .ok (.iinc 3 1, 3) := by decide +kernel
theorem dX9_readSum_85 : decode cX9_readSum 85 = .ok (.goto (-66), 3) := by decide +kernel
theorem dX9_readSum_88 : decode cX9_readSum 88 = .ok (.return_, 1) := by decide +kernel
def c_X9_readSum_b88 (F : Nat) (T : TC_X9_readExpr) (cs1 : CS) : Option CS := some cs1
def c_X9_readSum_b44 (F : Nat) (T : TC_X9_readExpr) (rc19 : CS → Nat → Int32 → Int32 → Int32 → Option CS) (cs1 : CS) (u0 : Nat) (u1 : Int32) (u2 : Int32) (u3 : Int32) : Option CS := Option.bind (ckE cs1 10 u0) fun _ => Option.bind (c_X9_kind F cs1 u0) fun v_1 => Option.bind (ckE cs1 10 u0) fun _ => Option.bind (c_X9_here F cs1 u0) fun v_3 => Option.bind (gI cs1 10 328 u0) fun v_5 => Option.bind (pI cs1 10 328 u0 (v_5 + 1)) fun cs_6 => Option.bind (ckE cs_6 10 u0) fun _ => Option.bind (T.2.2.2.2.2.1 cs_6 u0) fun cs_7 => Option.bind (ckE cs_7 10 u0) fun _ => Option.bind (c_X9_complete F cs_7 u0 v_1 u1 u2 v_3 2) fun z_9 => rc19 z_9.1 u0 u1 u2 (u3 + 1)
def c_X9_readSum_L19 (F : Nat) (T : TC_X9_readExpr) : Nat → CS → Nat → Int32 → Int32 → Int32 → Option CS
  | 0, _, _, _, _, _ => none
  | lf_19 + 1, cs1, u0, u1, u2, u3 => if 2000 ≤ u3 then (c_X9_readSum_b88 F T cs1) else (Option.bind (ckE cs1 10 u0) fun _ => Option.bind (c_X9_kind F cs1 u0) fun v_12 => if v_12 = 45 then (c_X9_readSum_b44 F T (c_X9_readSum_L19 F T lf_19) cs1 u0 u1 u2 u3) else (Option.bind (ckE cs1 10 u0) fun _ => Option.bind (c_X9_kind F cs1 u0) fun v_15 => if v_15 = 46 then (c_X9_readSum_b44 F T (c_X9_readSum_L19 F T lf_19) cs1 u0 u1 u2 u3) else (c_X9_readSum_b88 F T cs1)))
def cb_X9_readSum (F : Nat) (T : TC_X9_readExpr) (cs : CS) (x0 : Nat) : Option CS := Option.bind (gR cs 10 322 x0) fun v_18 => Option.bind (v_18) fun i_19 => Option.bind (gI cs 2 64 i_19) fun v_20 => Option.bind (ckE cs 10 x0) fun _ => Option.bind (c_X9_here F cs x0) fun v_21 => Option.bind (ckE cs 10 x0) fun _ => Option.bind (T.2.2.2.2.2.1 cs x0) fun cs_23 => c_X9_readSum_L19 F T F cs_23 x0 v_20 v_21 0
theorem dX9_readPart_0 : decode cX9_readPart 0 = .ok (.aload_n 0, 1) := by decide +kernel
theorem dX9_readPart_1 : decode cX9_readPart 1 = .ok (.getfield 26, 3) := by decide +kernel
theorem dX9_readPart_4 : decode cX9_readPart 4 = .ok (.getfield 296, 3) := by decide +kernel
theorem dX9_readPart_7 : decode cX9_readPart 7 = .ok (.istore_n 1, 1) := by decide +kernel
theorem dX9_readPart_8 : decode cX9_readPart 8 = .ok (.aload_n 0, 1) := by decide +kernel
theorem dX9_readPart_9 : decode cX9_readPart 9 = .ok (.invokevirtual 118, 3) := by decide +kernel
theorem dX9_readPart_12 : decode cX9_readPart 12 = .ok (.istore_n 2, 1) := by decide +kernel
theorem dX9_readPart_13 : decode cX9_readPart 13 = .ok (.aload_n 0, 1) := by decide +kernel
theorem dX9_readPart_14 : decode cX9_readPart 14 = .ok (.invokevirtual 325, 3) := by decide +kernel
theorem dX9_readPart_17 : decode cX9_readPart 17 = .ok (.iconst 0, 1) := by decide +kernel
theorem dX9_readPart_18 : decode cX9_readPart 18 = .ok (.istore_n 3, 1) := by decide +kernel
theorem dX9_readPart_19 : decode cX9_readPart 19 = .ok (.iload_n 3, 1) := by decide +kernel
theorem dX9_readPart_20 : decode cX9_readPart 20 = .ok (.sipush 2000, 3) := by decide +kernel
theorem dX9_readPart_23 : decode cX9_readPart 23 = .ok (.if_icmp .ge 74, 3) := by decide +kernel
theorem dX9_readPart_26 : decode cX9_readPart 26 = .ok (.aload_n 0, 1) := by decide +kernel
theorem dX9_readPart_27 : decode cX9_readPart 27 = .ok (.invokevirtual 114, 3) := by decide +kernel
theorem dX9_readPart_30 : decode cX9_readPart 30 = .ok (.bipush 47, 2) := by decide +kernel
theorem dX9_readPart_32 : decode cX9_readPart 32 = .ok (.if_icmp .eq 21, 3) := by decide +kernel
theorem dX9_readPart_35 : decode cX9_readPart 35 = .ok (.aload_n 0, 1) := by decide +kernel
theorem dX9_readPart_36 : decode cX9_readPart 36 = .ok (.invokevirtual 114, 3) := by decide +kernel
theorem dX9_readPart_39 : decode cX9_readPart 39 = .ok (.bipush 48, 2) := by decide +kernel
theorem dX9_readPart_41 : decode cX9_readPart 41 = .ok (.if_icmp .eq 12, 3) := by decide +kernel
theorem dX9_readPart_44 : decode cX9_readPart 44 = .ok (.aload_n 0, 1) := by decide +kernel
theorem dX9_readPart_45 : decode cX9_readPart 45 = .ok (.invokevirtual 114, 3) := by decide +kernel
theorem dX9_readPart_48 : decode cX9_readPart 48 = .ok (.bipush 49, 2) := by decide +kernel
theorem dX9_readPart_50 : decode cX9_readPart 50 = .ok (.if_icmp .ne 47, 3) := by decide +kernel
theorem dX9_readPart_53 : decode cX9_readPart 53 = .ok (.aload_n 0, 1) := by decide +kernel
theorem dX9_readPart_54 : decode cX9_readPart 54 = .ok (.invokevirtual 114, 3) := by decide +kernel
theorem dX9_readPart_57 : decode cX9_readPart 57 = .ok (.istore 4, 2) := by decide +kernel
theorem dX9_readPart_59 : decode cX9_readPart 59 = .ok (.aload_n 0, 1) := by decide +kernel
theorem dX9_readPart_60 : decode cX9_readPart 60 = .ok (.invokevirtual 118, 3) := by decide +kernel
theorem dX9_readPart_63 : decode cX9_readPart 63 = .ok (.istore 5, 2) := by decide +kernel
theorem dX9_readPart_65 : decode cX9_readPart 65 = .ok (.aload_n 0, 1) := by decide +kernel
theorem dX9_readPart_66 : decode cX9_readPart 66 = .ok (.dup, 1) := by decide +kernel
theorem dX9_readPart_67 : decode cX9_readPart 67 = .ok (.getfield 99, 3) := by decide +kernel
theorem dX9_readPart_70 : decode cX9_readPart 70 = .ok (.iconst 1, 1) := by decide +kernel
theorem dX9_readPart_71 : decode cX9_readPart 71 = .ok (.iadd, 1) := by decide +kernel
theorem dX9_readPart_72 : decode cX9_readPart 72 = .ok (.putfield 99, 3) := by decide +kernel
theorem dX9_readPart_75 : decode cX9_readPart 75 = .ok (.aload_n 0, 1) := by decide +kernel
theorem dX9_readPart_76 : decode cX9_readPart 76 = .ok (.invokevirtual 325, 3) := by decide +kernel
theorem dX9_readPart_79 : decode cX9_readPart 79 = .ok (.aload_n 0, 1) := by decide +kernel
theorem dX9_readPart_80 : decode cX9_readPart 80 = .ok (.iload 4, 2) := by decide +kernel
theorem dX9_readPart_82 : decode cX9_readPart 82 = .ok (.iload_n 1, 1) := by decide +kernel
theorem dX9_readPart_83 : decode cX9_readPart 83 = .ok (.iload_n 2, 1) := by decide +kernel
theorem dX9_readPart_84 : decode cX9_readPart 84 = .ok (.iload 5, 2) := by decide +kernel
theorem dX9_readPart_86 : decode cX9_readPart 86 = .ok (.iconst 2, 1) := by decide +kernel
theorem dX9_readPart_87 : decode cX9_readPart 87 = .ok (.invokevirtual 305, 3) := by decide +kernel
theorem dX9_readPart_90 : decode cX9_readPart 90 = .ok (.pop, 1) := by decide +kernel
theorem dX9_readPart_91 : decode cX9_readPart 91 = .ok (.iinc 3 1, 3) := by decide +kernel
theorem dX9_readPart_94 : decode cX9_readPart 94 = .ok (.goto (-75), 3) := by decide +kernel
theorem dX9_readPart_97 : decode cX9_readPart 97 = .ok (.return_, 1) := by decide +kernel
def c_X9_readPart_b97 (F : Nat) (T : TC_X9_readExpr) (cs1 : CS) : Option CS := some cs1
def c_X9_readPart_b53 (F : Nat) (T : TC_X9_readExpr) (rc19 : CS → Nat → Int32 → Int32 → Int32 → Option CS) (cs1 : CS) (u0 : Nat) (u1 : Int32) (u2 : Int32) (u3 : Int32) : Option CS := Option.bind (ckE cs1 10 u0) fun _ => Option.bind (c_X9_kind F cs1 u0) fun v_1 => Option.bind (ckE cs1 10 u0) fun _ => Option.bind (c_X9_here F cs1 u0) fun v_3 => Option.bind (gI cs1 10 328 u0) fun v_5 => Option.bind (pI cs1 10 328 u0 (v_5 + 1)) fun cs_6 => Option.bind (ckE cs_6 10 u0) fun _ => Option.bind (T.2.2.2.2.2.2.1 cs_6 u0) fun cs_7 => Option.bind (ckE cs_7 10 u0) fun _ => Option.bind (c_X9_complete F cs_7 u0 v_1 u1 u2 v_3 2) fun z_9 => rc19 z_9.1 u0 u1 u2 (u3 + 1)
def c_X9_readPart_L19 (F : Nat) (T : TC_X9_readExpr) : Nat → CS → Nat → Int32 → Int32 → Int32 → Option CS
  | 0, _, _, _, _, _ => none
  | lf_19 + 1, cs1, u0, u1, u2, u3 => if 2000 ≤ u3 then (c_X9_readPart_b97 F T cs1) else (Option.bind (ckE cs1 10 u0) fun _ => Option.bind (c_X9_kind F cs1 u0) fun v_12 => if v_12 = 47 then (c_X9_readPart_b53 F T (c_X9_readPart_L19 F T lf_19) cs1 u0 u1 u2 u3) else (Option.bind (ckE cs1 10 u0) fun _ => Option.bind (c_X9_kind F cs1 u0) fun v_15 => if v_15 = 48 then (c_X9_readPart_b53 F T (c_X9_readPart_L19 F T lf_19) cs1 u0 u1 u2 u3) else (Option.bind (ckE cs1 10 u0) fun _ => Option.bind (c_X9_kind F cs1 u0) fun v_18 => if v_18 = 49 then (c_X9_readPart_b53 F T (c_X9_readPart_L19 F T lf_19) cs1 u0 u1 u2 u3) else (c_X9_readPart_b97 F T cs1))))
def cb_X9_readPart (F : Nat) (T : TC_X9_readExpr) (cs : CS) (x0 : Nat) : Option CS := Option.bind (gR cs 10 322 x0) fun v_21 => Option.bind (v_21) fun i_22 => Option.bind (gI cs 2 64 i_22) fun v_23 => Option.bind (ckE cs 10 x0) fun _ => Option.bind (c_X9_here F cs x0) fun v_24 => Option.bind (ckE cs 10 x0) fun _ => Option.bind (T.2.2.2.2.2.2.1 cs x0) fun cs_26 => c_X9_readPart_L19 F T F cs_26 x0 v_23 v_24 0
theorem dX9_readSign_0 : decode cX9_readSign 0 = .ok (.aload_n 0, 1) := by decide +kernel
theorem dX9_readSign_1 : decode cX9_readSign 1 = .ok (.invokevirtual 114, 3) := by decide +kernel
theorem dX9_readSign_4 : decode cX9_readSign 4 = .ok (.bipush 46, 2) := by decide +kernel
theorem dX9_readSign_6 : decode cX9_readSign 6 = .ok (.if_icmp .eq 8, 3) := by decide +kernel
theorem dX9_readSign_9 : decode cX9_readSign 9 = .ok (.aload_n 0, 1) := by decide +kernel
theorem dX9_readSign_10 : decode cX9_readSign 10 = .ok (.invokevirtual 328, 3) := by decide +kernel
theorem dX9_readSign_13 : decode cX9_readSign 13 = .ok (.return_, 1) := by decide +kernel
theorem dX9_readSign_14 : decode cX9_readSign 14 = .ok (.aload_n 0, 1) := by decide +kernel
theorem dX9_readSign_15 : decode cX9_readSign 15 = .ok (.getfield 26, 3) := by decide +kernel
theorem dX9_readSign_18 : decode cX9_readSign 18 = .ok (.getfield 296, 3) := by decide +kernel
theorem dX9_readSign_21 : decode cX9_readSign 21 = .ok (.istore_n 1, 1) := by decide +kernel
theorem dX9_readSign_22 : decode cX9_readSign 22 = .ok (.aload_n 0, 1) := by decide +kernel
theorem dX9_readSign_23 : decode cX9_readSign 23 = .ok (.invokevirtual 118, 3) := by decide +kernel
theorem dX9_readSign_26 : decode cX9_readSign 26 = .ok (.istore_n 2, 1) := by decide +kernel
theorem dX9_readSign_27 : decode cX9_readSign 27 = .ok (.aload_n 0, 1) := by decide +kernel
theorem dX9_readSign_28 : decode cX9_readSign 28 = .ok (.invokevirtual 266, 3) := by decide +kernel
theorem dX9_readSign_31 : decode cX9_readSign 31 = .ok (.aload_n 0, 1) := by decide +kernel
theorem dX9_readSign_32 : decode cX9_readSign 32 = .ok (.bipush 46, 2) := by decide +kernel
theorem dX9_readSign_34 : decode cX9_readSign 34 = .ok (.invokevirtual 48, 3) := by decide +kernel
theorem dX9_readSign_37 : decode cX9_readSign 37 = .ok (.pop, 1) := by decide +kernel
theorem dX9_readSign_38 : decode cX9_readSign 38 = .ok (.aload_n 0, 1) := by decide +kernel
theorem dX9_readSign_39 : decode cX9_readSign 39 = .ok (.getfield 93, 3) := by decide +kernel
theorem dX9_readSign_42 : decode cX9_readSign 42 = .ok (.ifCond .ne 7, 3) := by decide +kernel
theorem dX9_readSign_45 : decode cX9_readSign 45 = .ok (.aload_n 0, 1) := by decide +kernel
theorem dX9_readSign_46 : decode cX9_readSign 46 = .ok (.invokevirtual 325, 3) := by decide +kernel
theorem dX9_readSign_49 : decode cX9_readSign 49 = .ok (.aload_n 0, 1) := by decide +kernel
theorem dX9_readSign_50 : decode cX9_readSign 50 = .ok (.dup, 1) := by decide +kernel
theorem dX9_readSign_51 : decode cX9_readSign 51 = .ok (.getfield 275, 3) := by decide +kernel
theorem dX9_readSign_54 : decode cX9_readSign 54 = .ok (.iconst 1, 1) := by decide +kernel
theorem dX9_readSign_55 : decode cX9_readSign 55 = .ok (.isub, 1) := by decide +kernel
theorem dX9_readSign_56 : decode cX9_readSign 56 = .ok (.putfield 275, 3) := by decide +kernel
theorem dX9_readSign_59 : decode cX9_readSign 59 = .ok (.aload_n 0, 1) := by decide +kernel
theorem dX9_readSign_60 : decode cX9_readSign 60 = .ok (.bipush 58, 2) := by decide +kernel
theorem dX9_readSign_62 : decode cX9_readSign 62 = .ok (.iload_n 1, 1) := by decide +kernel
theorem dX9_readSign_63 : decode cX9_readSign 63 = .ok (.iload_n 2, 1) := by decide +kernel
theorem dX9_readSign_64 : decode cX9_readSign 64 = .ok (.iload_n 2, 1) := by decide +kernel
theorem dX9_readSign_65 : decode cX9_readSign 65 = .ok (.iconst 1, 1) := by decide +kernel
theorem dX9_readSign_66 : decode cX9_readSign 66 = .ok (.invokevirtual 305, 3) := by decide +kernel
theorem dX9_readSign_69 : decode cX9_readSign 69 = .ok (.pop, 1) := by decide +kernel
theorem dX9_readSign_70 : decode cX9_readSign 70 = .ok (.return_, 1) := by decide +kernel
def c_X9_readSign_b49 (F : Nat) (T : TC_X9_readExpr) (cs1 : CS) (u0 : Nat) (u1 : Int32) (u2 : Int32) : Option CS := Option.bind (gI cs1 10 329 u0) fun v_1 => Option.bind (pI cs1 10 329 u0 (v_1 - 1)) fun cs_2 => Option.bind (ckE cs_2 10 u0) fun _ => Option.bind (c_X9_complete F cs_2 u0 58 u1 u2 u2 1) fun z_3 => some z_3.1
def cb_X9_readSign (F : Nat) (T : TC_X9_readExpr) (cs : CS) (x0 : Nat) : Option CS := Option.bind (ckE cs 10 x0) fun _ => Option.bind (c_X9_kind F cs x0) fun v_5 => if v_5 = 46 then (Option.bind (gR cs 10 322 x0) fun v_8 => Option.bind (v_8) fun i_9 => Option.bind (gI cs 2 64 i_9) fun v_10 => Option.bind (ckE cs 10 x0) fun _ => Option.bind (c_X9_here F cs x0) fun v_11 => Option.bind (ckE cs 10 x0) fun _ => Option.bind (c_X9_deepen F cs x0) fun cs_13 => Option.bind (ckE cs_13 10 x0) fun _ => Option.bind (c_X9_accept F cs_13 x0 46) fun z_15 => Option.bind (gI z_15.1 10 320 x0) fun v_17 => if v_17 = 0 then (Option.bind (ckE z_15.1 10 x0) fun _ => Option.bind (T.2.2.2.2.2.2.1 z_15.1 x0) fun cs_19 => c_X9_readSign_b49 F T cs_19 x0 v_10 v_11) else (c_X9_readSign_b49 F T z_15.1 x0 v_10 v_11)) else (Option.bind (ckE cs 10 x0) fun _ => Option.bind (T.2.2.2.2.2.2.2.1 cs x0) fun cs_21 => some cs_21)
theorem dX9_readOne_0 : decode cX9_readOne 0 = .ok (.aload_n 0, 1) := by decide +kernel
theorem dX9_readOne_1 : decode cX9_readOne 1 = .ok (.invokevirtual 114, 3) := by decide +kernel
theorem dX9_readOne_4 : decode cX9_readOne 4 = .ok (.tableswitch 178 19 41 #[157, 178, 178, 178, 178, 178, 178, 108, 178, 178, 178, 108, 108, 171, 171, 171, 171, 164, 178, 115, 115, 108, 122], 108) := by decide +kernel
theorem dX9_readOne_112 : decode cX9_readOne 112 = .ok (.aload_n 0, 1) := by decide +kernel
theorem dX9_readOne_113 : decode cX9_readOne 113 = .ok (.invokevirtual 331, 3) := by decide +kernel
theorem dX9_readOne_116 : decode cX9_readOne 116 = .ok (.goto 75, 3) := by decide +kernel
theorem dX9_readOne_119 : decode cX9_readOne 119 = .ok (.aload_n 0, 1) := by decide +kernel
theorem dX9_readOne_120 : decode cX9_readOne 120 = .ok (.invokevirtual 334, 3) := by decide +kernel
theorem dX9_readOne_123 : decode cX9_readOne 123 = .ok (.goto 68, 3) := by decide +kernel
theorem dX9_readOne_126 : decode cX9_readOne 126 = .ok (.aload_n 0, 1) := by decide +kernel
theorem dX9_readOne_127 : decode cX9_readOne 127 = .ok (.invokevirtual 266, 3) := by decide +kernel
theorem dX9_readOne_130 : decode cX9_readOne 130 = .ok (.aload_n 0, 1) := by decide +kernel
theorem dX9_readOne_131 : decode cX9_readOne 131 = .ok (.bipush 41, 2) := by decide +kernel
theorem dX9_readOne_133 : decode cX9_readOne 133 = .ok (.invokevirtual 48, 3) := by decide +kernel
theorem dX9_readOne_136 : decode cX9_readOne 136 = .ok (.pop, 1) := by decide +kernel
theorem dX9_readOne_137 : decode cX9_readOne 137 = .ok (.aload_n 0, 1) := by decide +kernel
theorem dX9_readOne_138 : decode cX9_readOne 138 = .ok (.invokevirtual 174, 3) := by decide +kernel
theorem dX9_readOne_141 : decode cX9_readOne 141 = .ok (.pop, 1) := by decide +kernel
theorem dX9_readOne_142 : decode cX9_readOne 142 = .ok (.aload_n 0, 1) := by decide +kernel
theorem dX9_readOne_143 : decode cX9_readOne 143 = .ok (.bipush 42, 2) := by decide +kernel
theorem dX9_readOne_145 : decode cX9_readOne 145 = .ok (.invokevirtual 60, 3) := by decide +kernel
theorem dX9_readOne_148 : decode cX9_readOne 148 = .ok (.aload_n 0, 1) := by decide +kernel
theorem dX9_readOne_149 : decode cX9_readOne 149 = .ok (.dup, 1) := by decide +kernel
theorem dX9_readOne_150 : decode cX9_readOne 150 = .ok (.getfield 275, 3) := by decide +kernel
theorem dX9_readOne_153 : decode cX9_readOne 153 = .ok (.iconst 1, 1) := by decide +kernel
theorem dX9_readOne_154 : decode cX9_readOne 154 = .ok (.isub, 1) := by decide +kernel
theorem dX9_readOne_155 : decode cX9_readOne 155 = .ok (.putfield 275, 3) := by decide +kernel
theorem dX9_readOne_158 : decode cX9_readOne 158 = .ok (.goto 33, 3) := by decide +kernel
theorem dX9_readOne_161 : decode cX9_readOne 161 = .ok (.aload_n 0, 1) := by decide +kernel
theorem dX9_readOne_162 : decode cX9_readOne 162 = .ok (.invokevirtual 337, 3) := by decide +kernel
theorem dX9_readOne_165 : decode cX9_readOne 165 = .ok (.goto 26, 3) := by decide +kernel
theorem dX9_readOne_168 : decode cX9_readOne 168 = .ok (.aload_n 0, 1) := by decide +kernel
theorem dX9_readOne_169 : decode cX9_readOne 169 = .ok (.invokevirtual 340, 3) := by decide +kernel
theorem dX9_readOne_172 : decode cX9_readOne 172 = .ok (.goto 19, 3) := by decide +kernel
theorem dX9_readOne_175 : decode cX9_readOne 175 = .ok (.aload_n 0, 1) := by decide +kernel
theorem dX9_readOne_176 : decode cX9_readOne 176 = .ok (.invokevirtual 343, 3) := by decide +kernel
theorem dX9_readOne_179 : decode cX9_readOne 179 = .ok (.goto 12, 3) := by decide +kernel
theorem dX9_readOne_182 : decode cX9_readOne 182 = .ok (.aload_n 0, 1) := by decide +kernel
theorem dX9_readOne_183 : decode cX9_readOne 183 = .ok (.iconst 1, 1) := by decide +kernel
theorem dX9_readOne_184 : decode cX9_readOne 184 = .ok (.aload_n 0, 1) := by decide +kernel
theorem dX9_readOne_185 : decode cX9_readOne 185 = .ok (.invokevirtual 118, 3) := by decide +kernel
theorem dX9_readOne_188 : decode cX9_readOne 188 = .ok (.invokevirtual 121, 3) := by decide +kernel
theorem dX9_readOne_191 : decode cX9_readOne 191 = .ok (.return_, 1) := by decide +kernel
def c_X9_readOne_b191 (F : Nat) (T : TC_X9_readExpr) (cs1 : CS) : Option CS := some cs1
def c_X9_readOne_b112 (F : Nat) (T : TC_X9_readExpr) (cs1 : CS) (u0 : Nat) : Option CS := Option.bind (ckE cs1 10 u0) fun _ => Option.bind (c_X9_readLiteral F cs1 u0) fun cs_1 => c_X9_readOne_b191 F T cs_1
def c_X9_readOne_b119 (F : Nat) (T : TC_X9_readExpr) (cs1 : CS) (u0 : Nat) : Option CS := Option.bind (ckE cs1 10 u0) fun _ => Option.bind (c_X9_readColumn F cs1 u0) fun cs_3 => c_X9_readOne_b191 F T cs_3
def c_X9_readOne_b175 (F : Nat) (T : TC_X9_readExpr) (cs1 : CS) (u0 : Nat) : Option CS := Option.bind (ckE cs1 10 u0) fun _ => Option.bind (T.2.2.2.2.2.2.2.2.2.2.1 cs1 u0) fun cs_5 => c_X9_readOne_b191 F T cs_5
def c_X9_readOne_b182 (F : Nat) (T : TC_X9_readExpr) (cs1 : CS) (u0 : Nat) : Option CS := Option.bind (ckE cs1 10 u0) fun _ => Option.bind (c_X9_here F cs1 u0) fun v_7 => Option.bind (ckE cs1 10 u0) fun _ => Option.bind (c_X9_refuse F cs1 u0 1 v_7) fun cs_9 => c_X9_readOne_b191 F T cs_9
def cb_X9_readOne (F : Nat) (T : TC_X9_readExpr) (cs : CS) (x0 : Nat) : Option CS := Option.bind (ckE cs 10 x0) fun _ => Option.bind (c_X9_kind F cs x0) fun v_11 => if v_11 = 19 then (Option.bind (ckE cs 10 x0) fun _ => Option.bind (T.2.2.2.2.2.2.2.2.1 cs x0) fun cs_14 => c_X9_readOne_b191 F T cs_14) else (if v_11 = 26 then (c_X9_readOne_b112 F T cs x0) else (if v_11 = 30 then (c_X9_readOne_b112 F T cs x0) else (if v_11 = 31 then (c_X9_readOne_b112 F T cs x0) else (if v_11 = 32 then (c_X9_readOne_b175 F T cs x0) else (if v_11 = 33 then (c_X9_readOne_b175 F T cs x0) else (if v_11 = 34 then (c_X9_readOne_b175 F T cs x0) else (if v_11 = 35 then (c_X9_readOne_b175 F T cs x0) else (if v_11 = 36 then (Option.bind (ckE cs 10 x0) fun _ => Option.bind (T.2.2.2.2.2.2.2.2.2.1 cs x0) fun cs_24 => c_X9_readOne_b191 F T cs_24) else (if v_11 = 38 then (c_X9_readOne_b119 F T cs x0) else (if v_11 = 39 then (c_X9_readOne_b119 F T cs x0) else (if v_11 = 40 then (c_X9_readOne_b112 F T cs x0) else (if v_11 = 41 then (Option.bind (ckE cs 10 x0) fun _ => Option.bind (c_X9_deepen F cs x0) fun cs_30 => Option.bind (ckE cs_30 10 x0) fun _ => Option.bind (c_X9_accept F cs_30 x0 41) fun z_32 => Option.bind (ckE z_32.1 10 x0) fun _ => Option.bind (T.1 z_32.1 x0) fun z_34 => Option.bind (ckE z_34.1 10 x0) fun _ => Option.bind (c_X9_expect F z_34.1 x0 42) fun cs_36 => Option.bind (gI cs_36 10 329 x0) fun v_38 => Option.bind (pI cs_36 10 329 x0 (v_38 - 1)) fun cs_39 => c_X9_readOne_b191 F T cs_39) else (c_X9_readOne_b182 F T cs x0)))))))))))))
theorem dX9_readCase_0 : decode cX9_readCase 0 = .ok (.aload_n 0, 1) := by decide +kernel
theorem dX9_readCase_1 : decode cX9_readCase 1 = .ok (.getfield 26, 3) := by decide +kernel
theorem dX9_readCase_4 : decode cX9_readCase 4 = .ok (.getfield 296, 3) := by decide +kernel
theorem dX9_readCase_7 : decode cX9_readCase 7 = .ok (.istore_n 1, 1) := by decide +kernel
theorem dX9_readCase_8 : decode cX9_readCase 8 = .ok (.aload_n 0, 1) := by decide +kernel
theorem dX9_readCase_9 : decode cX9_readCase 9 = .ok (.invokevirtual 118, 3) := by decide +kernel
theorem dX9_readCase_12 : decode cX9_readCase 12 = .ok (.istore_n 2, 1) := by decide +kernel
theorem dX9_readCase_13 : decode cX9_readCase 13 = .ok (.aload_n 0, 1) := by decide +kernel
theorem dX9_readCase_14 : decode cX9_readCase 14 = .ok (.invokevirtual 266, 3) := by decide +kernel
theorem dX9_readCase_17 : decode cX9_readCase 17 = .ok (.aload_n 0, 1) := by decide +kernel
theorem dX9_readCase_18 : decode cX9_readCase 18 = .ok (.bipush 19, 2) := by decide +kernel
theorem dX9_readCase_20 : decode cX9_readCase 20 = .ok (.invokevirtual 48, 3) := by decide +kernel
theorem dX9_readCase_23 : decode cX9_readCase 23 = .ok (.pop, 1) := by decide +kernel
theorem dX9_readCase_24 : decode cX9_readCase 24 = .ok (.aload_n 0, 1) := by decide +kernel
theorem dX9_readCase_25 : decode cX9_readCase 25 = .ok (.bipush 20, 2) := by decide +kernel
theorem dX9_readCase_27 : decode cX9_readCase 27 = .ok (.invokevirtual 60, 3) := by decide +kernel
theorem dX9_readCase_30 : decode cX9_readCase 30 = .ok (.aload_n 0, 1) := by decide +kernel
theorem dX9_readCase_31 : decode cX9_readCase 31 = .ok (.invokevirtual 174, 3) := by decide +kernel
theorem dX9_readCase_34 : decode cX9_readCase 34 = .ok (.pop, 1) := by decide +kernel
theorem dX9_readCase_35 : decode cX9_readCase 35 = .ok (.aload_n 0, 1) := by decide +kernel
theorem dX9_readCase_36 : decode cX9_readCase 36 = .ok (.bipush 21, 2) := by decide +kernel
theorem dX9_readCase_38 : decode cX9_readCase 38 = .ok (.invokevirtual 60, 3) := by decide +kernel
theorem dX9_readCase_41 : decode cX9_readCase 41 = .ok (.aload_n 0, 1) := by decide +kernel
theorem dX9_readCase_42 : decode cX9_readCase 42 = .ok (.invokevirtual 174, 3) := by decide +kernel
theorem dX9_readCase_45 : decode cX9_readCase 45 = .ok (.pop, 1) := by decide +kernel
theorem dX9_readCase_46 : decode cX9_readCase 46 = .ok (.aload_n 0, 1) := by decide +kernel
theorem dX9_readCase_47 : decode cX9_readCase 47 = .ok (.bipush 22, 2) := by decide +kernel
theorem dX9_readCase_49 : decode cX9_readCase 49 = .ok (.invokevirtual 60, 3) := by decide +kernel
theorem dX9_readCase_52 : decode cX9_readCase 52 = .ok (.aload_n 0, 1) := by decide +kernel
theorem dX9_readCase_53 : decode cX9_readCase 53 = .ok (.invokevirtual 174, 3) := by decide +kernel
theorem dX9_readCase_56 : decode cX9_readCase 56 = .ok (.pop, 1) := by decide +kernel
theorem dX9_readCase_57 : decode cX9_readCase 57 = .ok (.aload_n 0, 1) := by decide +kernel
theorem dX9_readCase_58 : decode cX9_readCase 58 = .ok (.bipush 23, 2) := by decide +kernel
theorem dX9_readCase_60 : decode cX9_readCase 60 = .ok (.invokevirtual 60, 3) := by decide +kernel
theorem dX9_readCase_63 : decode cX9_readCase 63 = .ok (.aload_n 0, 1) := by decide +kernel
theorem dX9_readCase_64 : decode cX9_readCase 64 = .ok (.dup, 1) := by decide +kernel
theorem dX9_readCase_65 : decode cX9_readCase 65 = .ok (.getfield 275, 3) := by decide +kernel
theorem dX9_readCase_68 : decode cX9_readCase 68 = .ok (.iconst 1, 1) := by decide +kernel
theorem dX9_readCase_69 : decode cX9_readCase 69 = .ok (.isub, 1) := by decide +kernel
theorem dX9_readCase_70 : decode cX9_readCase 70 = .ok (.putfield 275, 3) := by decide +kernel
theorem dX9_readCase_73 : decode cX9_readCase 73 = .ok (.aload_n 0, 1) := by decide +kernel
theorem dX9_readCase_74 : decode cX9_readCase 74 = .ok (.bipush 19, 2) := by decide +kernel
theorem dX9_readCase_76 : decode cX9_readCase 76 = .ok (.iload_n 1, 1) := by decide +kernel
theorem dX9_readCase_77 : decode cX9_readCase 77 = .ok (.iload_n 2, 1) := by decide +kernel
theorem dX9_readCase_78 : decode cX9_readCase 78 = .ok (.iload_n 2, 1) := by decide +kernel
theorem dX9_readCase_79 : decode cX9_readCase 79 = .ok (.iconst 3, 1) := by decide +kernel
theorem dX9_readCase_80 : decode cX9_readCase 80 = .ok (.invokevirtual 305, 3) := by decide +kernel
theorem dX9_readCase_83 : decode cX9_readCase 83 = .ok (.pop, 1) := by decide +kernel
theorem dX9_readCase_84 : decode cX9_readCase 84 = .ok (.return_, 1) := by decide +kernel
def cb_X9_readCase (F : Nat) (T : TC_X9_readExpr) (cs : CS) (x0 : Nat) : Option CS := Option.bind (gR cs 10 322 x0) fun v_1 => Option.bind (v_1) fun i_2 => Option.bind (gI cs 2 64 i_2) fun v_3 => Option.bind (ckE cs 10 x0) fun _ => Option.bind (c_X9_here F cs x0) fun v_4 => Option.bind (ckE cs 10 x0) fun _ => Option.bind (c_X9_deepen F cs x0) fun cs_6 => Option.bind (ckE cs_6 10 x0) fun _ => Option.bind (c_X9_accept F cs_6 x0 19) fun z_8 => Option.bind (ckE z_8.1 10 x0) fun _ => Option.bind (c_X9_expect F z_8.1 x0 20) fun cs_10 => Option.bind (ckE cs_10 10 x0) fun _ => Option.bind (T.1 cs_10 x0) fun z_12 => Option.bind (ckE z_12.1 10 x0) fun _ => Option.bind (c_X9_expect F z_12.1 x0 21) fun cs_14 => Option.bind (ckE cs_14 10 x0) fun _ => Option.bind (T.1 cs_14 x0) fun z_16 => Option.bind (ckE z_16.1 10 x0) fun _ => Option.bind (c_X9_expect F z_16.1 x0 22) fun cs_18 => Option.bind (ckE cs_18 10 x0) fun _ => Option.bind (T.1 cs_18 x0) fun z_20 => Option.bind (ckE z_20.1 10 x0) fun _ => Option.bind (c_X9_expect F z_20.1 x0 23) fun cs_22 => Option.bind (gI cs_22 10 329 x0) fun v_24 => Option.bind (pI cs_22 10 329 x0 (v_24 - 1)) fun cs_25 => Option.bind (ckE cs_25 10 x0) fun _ => Option.bind (c_X9_complete F cs_25 x0 19 v_3 v_4 v_4 3) fun z_26 => some z_26.1
theorem dX9_readSpan_0 : decode cX9_readSpan 0 = .ok (.aload_n 0, 1) := by decide +kernel
theorem dX9_readSpan_1 : decode cX9_readSpan 1 = .ok (.getfield 26, 3) := by decide +kernel
theorem dX9_readSpan_4 : decode cX9_readSpan 4 = .ok (.getfield 296, 3) := by decide +kernel
theorem dX9_readSpan_7 : decode cX9_readSpan 7 = .ok (.istore_n 1, 1) := by decide +kernel
theorem dX9_readSpan_8 : decode cX9_readSpan 8 = .ok (.aload_n 0, 1) := by decide +kernel
theorem dX9_readSpan_9 : decode cX9_readSpan 9 = .ok (.invokevirtual 118, 3) := by decide +kernel
theorem dX9_readSpan_12 : decode cX9_readSpan 12 = .ok (.istore_n 2, 1) := by decide +kernel
theorem dX9_readSpan_13 : decode cX9_readSpan 13 = .ok (.aload_n 0, 1) := by decide +kernel
theorem dX9_readSpan_14 : decode cX9_readSpan 14 = .ok (.invokevirtual 266, 3) := by decide +kernel
theorem dX9_readSpan_17 : decode cX9_readSpan 17 = .ok (.aload_n 0, 1) := by decide +kernel
theorem dX9_readSpan_18 : decode cX9_readSpan 18 = .ok (.bipush 36, 2) := by decide +kernel
theorem dX9_readSpan_20 : decode cX9_readSpan 20 = .ok (.invokevirtual 48, 3) := by decide +kernel
theorem dX9_readSpan_23 : decode cX9_readSpan 23 = .ok (.pop, 1) := by decide +kernel
theorem dX9_readSpan_24 : decode cX9_readSpan 24 = .ok (.aload_n 0, 1) := by decide +kernel
theorem dX9_readSpan_25 : decode cX9_readSpan 25 = .ok (.bipush 41, 2) := by decide +kernel
theorem dX9_readSpan_27 : decode cX9_readSpan 27 = .ok (.invokevirtual 60, 3) := by decide +kernel
theorem dX9_readSpan_30 : decode cX9_readSpan 30 = .ok (.aload_n 0, 1) := by decide +kernel
theorem dX9_readSpan_31 : decode cX9_readSpan 31 = .ok (.invokevirtual 174, 3) := by decide +kernel
theorem dX9_readSpan_34 : decode cX9_readSpan 34 = .ok (.pop, 1) := by decide +kernel
theorem dX9_readSpan_35 : decode cX9_readSpan 35 = .ok (.aload_n 0, 1) := by decide +kernel
theorem dX9_readSpan_36 : decode cX9_readSpan 36 = .ok (.bipush 43, 2) := by decide +kernel
theorem dX9_readSpan_38 : decode cX9_readSpan 38 = .ok (.invokevirtual 60, 3) := by decide +kernel
theorem dX9_readSpan_41 : decode cX9_readSpan 41 = .ok (.aload_n 0, 1) := by decide +kernel
theorem dX9_readSpan_42 : decode cX9_readSpan 42 = .ok (.invokevirtual 174, 3) := by decide +kernel
theorem dX9_readSpan_45 : decode cX9_readSpan 45 = .ok (.pop, 1) := by decide +kernel
theorem dX9_readSpan_46 : decode cX9_readSpan 46 = .ok (.aload_n 0, 1) := by decide +kernel
theorem dX9_readSpan_47 : decode cX9_readSpan 47 = .ok (.bipush 42, 2) := by decide +kernel
theorem dX9_readSpan_49 : decode cX9_readSpan 49 = .ok (.invokevirtual 60, 3) := by decide +kernel
theorem dX9_readSpan_52 : decode cX9_readSpan 52 = .ok (.aload_n 0, 1) := by decide +kernel
theorem dX9_readSpan_53 : decode cX9_readSpan 53 = .ok (.dup, 1) := by decide +kernel
theorem dX9_readSpan_54 : decode cX9_readSpan 54 = .ok (.getfield 275, 3) := by decide +kernel
theorem dX9_readSpan_57 : decode cX9_readSpan 57 = .ok (.iconst 1, 1) := by decide +kernel
theorem dX9_readSpan_58 : decode cX9_readSpan 58 = .ok (.isub, 1) := by decide +kernel
theorem dX9_readSpan_59 : decode cX9_readSpan 59 = .ok (.putfield 275, 3) := by decide +kernel
theorem dX9_readSpan_62 : decode cX9_readSpan 62 = .ok (.aload_n 0, 1) := by decide +kernel
theorem dX9_readSpan_63 : decode cX9_readSpan 63 = .ok (.bipush 36, 2) := by decide +kernel
theorem dX9_readSpan_65 : decode cX9_readSpan 65 = .ok (.iload_n 1, 1) := by decide +kernel
theorem dX9_readSpan_66 : decode cX9_readSpan 66 = .ok (.iload_n 2, 1) := by decide +kernel
theorem dX9_readSpan_67 : decode cX9_readSpan 67 = .ok (.iload_n 2, 1) := by decide +kernel
theorem dX9_readSpan_68 : decode cX9_readSpan 68 = .ok (.iconst 2, 1) := by decide +kernel
theorem dX9_readSpan_69 : decode cX9_readSpan 69 = .ok (.invokevirtual 305, 3) := by decide +kernel
theorem dX9_readSpan_72 : decode cX9_readSpan 72 = .ok (.pop, 1) := by decide +kernel
theorem dX9_readSpan_73 : decode cX9_readSpan 73 = .ok (.return_, 1) := by decide +kernel
def cb_X9_readSpan (F : Nat) (T : TC_X9_readExpr) (cs : CS) (x0 : Nat) : Option CS := Option.bind (gR cs 10 322 x0) fun v_1 => Option.bind (v_1) fun i_2 => Option.bind (gI cs 2 64 i_2) fun v_3 => Option.bind (ckE cs 10 x0) fun _ => Option.bind (c_X9_here F cs x0) fun v_4 => Option.bind (ckE cs 10 x0) fun _ => Option.bind (c_X9_deepen F cs x0) fun cs_6 => Option.bind (ckE cs_6 10 x0) fun _ => Option.bind (c_X9_accept F cs_6 x0 36) fun z_8 => Option.bind (ckE z_8.1 10 x0) fun _ => Option.bind (c_X9_expect F z_8.1 x0 41) fun cs_10 => Option.bind (ckE cs_10 10 x0) fun _ => Option.bind (T.1 cs_10 x0) fun z_12 => Option.bind (ckE z_12.1 10 x0) fun _ => Option.bind (c_X9_expect F z_12.1 x0 43) fun cs_14 => Option.bind (ckE cs_14 10 x0) fun _ => Option.bind (T.1 cs_14 x0) fun z_16 => Option.bind (ckE z_16.1 10 x0) fun _ => Option.bind (c_X9_expect F z_16.1 x0 42) fun cs_18 => Option.bind (gI cs_18 10 329 x0) fun v_20 => Option.bind (pI cs_18 10 329 x0 (v_20 - 1)) fun cs_21 => Option.bind (ckE cs_21 10 x0) fun _ => Option.bind (c_X9_complete F cs_21 x0 36 v_3 v_4 v_4 2) fun z_22 => some z_22.1
theorem dX9_readAggregate_0 : decode cX9_readAggregate 0 = .ok (.aload_n 0, 1) := by decide +kernel
theorem dX9_readAggregate_1 : decode cX9_readAggregate 1 = .ok (.invokevirtual 114, 3) := by decide +kernel
theorem dX9_readAggregate_4 : decode cX9_readAggregate 4 = .ok (.istore_n 1, 1) := by decide +kernel
theorem dX9_readAggregate_5 : decode cX9_readAggregate 5 = .ok (.aload_n 0, 1) := by decide +kernel
theorem dX9_readAggregate_6 : decode cX9_readAggregate 6 = .ok (.getfield 26, 3) := by decide +kernel
theorem dX9_readAggregate_9 : decode cX9_readAggregate 9 = .ok (.getfield 296, 3) := by decide +kernel
theorem dX9_readAggregate_12 : decode cX9_readAggregate 12 = .ok (.istore_n 2, 1) := by decide +kernel
theorem dX9_readAggregate_13 : decode cX9_readAggregate 13 = .ok (.aload_n 0, 1) := by decide +kernel
theorem dX9_readAggregate_14 : decode cX9_readAggregate 14 = .ok (.invokevirtual 118, 3) := by decide +kernel
theorem dX9_readAggregate_17 : decode cX9_readAggregate 17 = .ok (.istore_n 3, 1) := by decide +kernel
theorem dX9_readAggregate_18 : decode cX9_readAggregate 18 = .ok (.aload_n 0, 1) := by decide +kernel
theorem dX9_readAggregate_19 : decode cX9_readAggregate 19 = .ok (.getfield 198, 3) := by decide +kernel
theorem dX9_readAggregate_22 : decode cX9_readAggregate 22 = .ok (.astore 4, 2) := by decide +kernel
theorem dX9_readAggregate_24 : decode cX9_readAggregate 24 = .ok (.aload_n 0, 1) := by decide +kernel
theorem dX9_readAggregate_25 : decode cX9_readAggregate 25 = .ok (.getfield 163, 3) := by decide +kernel
theorem dX9_readAggregate_28 : decode cX9_readAggregate 28 = .ok (.ifCond .eq 8, 3) := by decide +kernel
theorem dX9_readAggregate_31 : decode cX9_readAggregate 31 = .ok (.aload 4, 2) := by decide +kernel
theorem dX9_readAggregate_33 : decode cX9_readAggregate 33 = .ok (.ifnonnull 10, 3) := by decide +kernel
theorem dX9_readAggregate_36 : decode cX9_readAggregate 36 = .ok (.aload_n 0, 1) := by decide +kernel
theorem dX9_readAggregate_37 : decode cX9_readAggregate 37 = .ok (.iconst 1, 1) := by decide +kernel
theorem dX9_readAggregate_38 : decode cX9_readAggregate 38 = .ok (.iload_n 3, 1) := by decide +kernel
theorem dX9_readAggregate_39 : decode cX9_readAggregate 39 = .ok (.invokevirtual 121, 3) := by decide +kernel
theorem dX9_readAggregate_42 : decode cX9_readAggregate 42 = .ok (.return_, 1) := by decide +kernel
theorem dX9_readAggregate_43 : decode cX9_readAggregate 43 = .ok (.aload 4, 2) := by decide +kernel
theorem dX9_readAggregate_45 : decode cX9_readAggregate 45 = .ok (.getfield 349, 3) := by decide +kernel
theorem dX9_readAggregate_48 : decode cX9_readAggregate 48 = .ok (.bipush 12, 2) := by decide +kernel
theorem dX9_readAggregate_50 : decode cX9_readAggregate 50 = .ok (.if_icmp .lt 10, 3) := by decide +kernel
theorem dX9_readAggregate_53 : decode cX9_readAggregate 53 = .ok (.aload_n 0, 1) := by decide +kernel
theorem dX9_readAggregate_54 : decode cX9_readAggregate 54 = .ok (.bipush 7, 2) := by decide +kernel
theorem dX9_readAggregate_56 : decode cX9_readAggregate 56 = .ok (.iload_n 3, 1) := by decide +kernel
theorem dX9_readAggregate_57 : decode cX9_readAggregate 57 = .ok (.invokevirtual 121, 3) := by decide +kernel
theorem dX9_readAggregate_60 : decode cX9_readAggregate 60 = .ok (.aload_n 0, 1) := by decide +kernel
theorem dX9_readAggregate_61 : decode cX9_readAggregate 61 = .ok (.invokevirtual 266, 3) := by decide +kernel
theorem dX9_readAggregate_64 : decode cX9_readAggregate 64 = .ok (.aload_n 0, 1) := by decide +kernel
theorem dX9_readAggregate_65 : decode cX9_readAggregate 65 = .ok (.iload_n 1, 1) := by decide +kernel
theorem dX9_readAggregate_66 : decode cX9_readAggregate 66 = .ok (.invokevirtual 48, 3) := by decide +kernel
theorem dX9_readAggregate_69 : decode cX9_readAggregate 69 = .ok (.pop, 1) := by decide +kernel
theorem dX9_readAggregate_70 : decode cX9_readAggregate 70 = .ok (.aload_n 0, 1) := by decide +kernel
theorem dX9_readAggregate_71 : decode cX9_readAggregate 71 = .ok (.bipush 41, 2) := by decide +kernel
theorem dX9_readAggregate_73 : decode cX9_readAggregate 73 = .ok (.invokevirtual 60, 3) := by decide +kernel
theorem dX9_readAggregate_76 : decode cX9_readAggregate 76 = .ok (.aload_n 0, 1) := by decide +kernel
theorem dX9_readAggregate_77 : decode cX9_readAggregate 77 = .ok (.iconst 0, 1) := by decide +kernel
theorem dX9_readAggregate_78 : decode cX9_readAggregate 78 = .ok (.putfield 163, 3) := by decide +kernel
theorem dX9_readAggregate_81 : decode cX9_readAggregate 81 = .ok (.iload_n 1, 1) := by decide +kernel
theorem dX9_readAggregate_82 : decode cX9_readAggregate 82 = .ok (.bipush 32, 2) := by decide +kernel
theorem dX9_readAggregate_84 : decode cX9_readAggregate 84 = .ok (.if_icmp .ne 16, 3) := by decide +kernel
theorem dX9_readAggregate_87 : decode cX9_readAggregate 87 = .ok (.aload_n 0, 1) := by decide +kernel
theorem dX9_readAggregate_88 : decode cX9_readAggregate 88 = .ok (.bipush 47, 2) := by decide +kernel
theorem dX9_readAggregate_90 : decode cX9_readAggregate 90 = .ok (.invokevirtual 48, 3) := by decide +kernel
theorem dX9_readAggregate_93 : decode cX9_readAggregate 93 = .ok (.ifCond .eq 7, 3) := by decide +kernel
theorem dX9_readAggregate_96 : decode cX9_readAggregate 96 = .ok (.iconst 1, 1) := by decide +kernel
theorem dX9_readAggregate_97 : decode cX9_readAggregate 97 = .ok (.goto 4, 3) := by decide +kernel
theorem dX9_readAggregate_100 : decode cX9_readAggregate 100 = .ok (.iconst 0, 1) := by decide +kernel
theorem dX9_readAggregate_101 : decode cX9_readAggregate 101 = .ok (.istore 5, 2) := by decide +kernel
theorem dX9_readAggregate_103 : decode cX9_readAggregate 103 = .ok (.iload 5, 2) := by decide +kernel
theorem dX9_readAggregate_105 : decode cX9_readAggregate 105 = .ok (.ifCond .ne 8, 3) := by decide +kernel
theorem dX9_readAggregate_108 : decode cX9_readAggregate 108 = .ok (.aload_n 0, 1) := by decide +kernel
theorem dX9_readAggregate_109 : decode cX9_readAggregate 109 = .ok (.invokevirtual 174, 3) := by decide +kernel
theorem dX9_readAggregate_112 : decode cX9_readAggregate 112 = .ok (.pop, 1) := by decide +kernel
theorem dX9_readAggregate_113 : decode cX9_readAggregate 113 = .ok (.aload_n 0, 1) := by decide +kernel
theorem dX9_readAggregate_114 : decode cX9_readAggregate 114 = .ok (.iconst 1, 1) := by decide +kernel
theorem dX9_readAggregate_115 : decode cX9_readAggregate 115 = .ok (.putfield 163, 3) := by decide +kernel
theorem dX9_readAggregate_118 : decode cX9_readAggregate 118 = .ok (.aload_n 0, 1) := by decide +kernel
theorem dX9_readAggregate_119 : decode cX9_readAggregate 119 = .ok (.bipush 42, 2) := by decide +kernel
theorem dX9_readAggregate_121 : decode cX9_readAggregate 121 = .ok (.invokevirtual 60, 3) := by decide +kernel
theorem dX9_readAggregate_124 : decode cX9_readAggregate 124 = .ok (.aload_n 0, 1) := by decide +kernel
theorem dX9_readAggregate_125 : decode cX9_readAggregate 125 = .ok (.dup, 1) := by decide +kernel
theorem dX9_readAggregate_126 : decode cX9_readAggregate 126 = .ok (.getfield 275, 3) := by decide +kernel
theorem dX9_readAggregate_129 : decode cX9_readAggregate 129 = .ok (.iconst 1, 1) := by decide +kernel
theorem dX9_readAggregate_130 : decode cX9_readAggregate 130 = .ok (.isub, 1) := by decide +kernel
theorem dX9_readAggregate_131 : decode cX9_readAggregate 131 = .ok (.putfield 275, 3) := by decide +kernel
theorem dX9_readAggregate_134 : decode cX9_readAggregate 134 = .ok (.aload_n 0, 1) := by decide +kernel
theorem dX9_readAggregate_135 : decode cX9_readAggregate 135 = .ok (.iload 5, 2) := by decide +kernel
theorem dX9_readAggregate_137 : decode cX9_readAggregate 137 = .ok (.ifCond .eq 8, 3) := by decide +kernel
theorem dX9_readAggregate_140 : decode cX9_readAggregate 140 = .ok (.bipush 61, 2) := by decide +kernel
theorem dX9_readAggregate_142 : decode cX9_readAggregate 142 = .ok (.goto 4, 3) := by decide +kernel
theorem dX9_readAggregate_145 : decode cX9_readAggregate 145 = .ok (.iload_n 1, 1) := by decide +kernel
theorem dX9_readAggregate_146 : decode cX9_readAggregate 146 = .ok (.iload_n 2, 1) := by decide +kernel
theorem dX9_readAggregate_147 : decode cX9_readAggregate 147 = .ok (.iload_n 3, 1) := by decide +kernel
theorem dX9_readAggregate_148 : decode cX9_readAggregate 148 = .ok (.iload_n 3, 1) := by decide +kernel
theorem dX9_readAggregate_149 : decode cX9_readAggregate 149 = .ok (.iload 5, 2) := by decide +kernel
theorem dX9_readAggregate_151 : decode cX9_readAggregate 151 = .ok (.ifCond .eq 7, 3) := by decide +kernel
theorem dX9_readAggregate_154 : decode cX9_readAggregate 154 = .ok (.iconst 0, 1) := by decide +kernel
theorem dX9_readAggregate_155 : decode cX9_readAggregate 155 = .ok (.goto 4, 3) := by decide +kernel
theorem dX9_readAggregate_158 : decode cX9_readAggregate 158 = .ok (.iconst 1, 1) := by decide +kernel
theorem dX9_readAggregate_159 : decode cX9_readAggregate 159 = .ok (.invokevirtual 305, 3) := by decide +kernel
theorem dX9_readAggregate_162 : decode cX9_readAggregate 162 = .ok (.istore 6, 2) := by decide +kernel
theorem dX9_readAggregate_164 : decode cX9_readAggregate 164 = .ok (.aload_n 0, 1) := by decide +kernel
theorem dX9_readAggregate_165 : decode cX9_readAggregate 165 = .ok (.aload 4, 2) := by decide +kernel
theorem dX9_readAggregate_167 : decode cX9_readAggregate 167 = .ok (.iload 6, 2) := by decide +kernel
theorem dX9_readAggregate_169 : decode cX9_readAggregate 169 = .ok (.iload_n 2, 1) := by decide +kernel
theorem dX9_readAggregate_170 : decode cX9_readAggregate 170 = .ok (.invokevirtual 352, 3) := by decide +kernel
theorem dX9_readAggregate_173 : decode cX9_readAggregate 173 = .ok (.return_, 1) := by decide +kernel
def c_X9_readAggregate_b36 (F : Nat) (T : TC_X9_readExpr) (cs1 : CS) (u0 : Nat) (u3 : Int32) : Option CS := Option.bind (ckE cs1 10 u0) fun _ => Option.bind (c_X9_refuse F cs1 u0 1 u3) fun cs_1 => some cs_1
def c_X9_readAggregate_b159 (F : Nat) (T : TC_X9_readExpr) (cs1 : CS) (u0 : Nat) (u2 : Int32) (u4 : Nat) (y0 : Int32) (y1 : Int32) (y2 : Int32) (y3 : Int32) (y4 : Int32) (y5 : Nat) : Option CS := Option.bind (ckE cs1 10 y5) fun _ => Option.bind (c_X9_complete F cs1 y5 y4 y3 y2 y1 y0) fun z_3 => Option.bind (ckE z_3.1 10 u0) fun _ => Option.bind (c_X9_noteAggregate F z_3.1 u0 u4 z_3.2 u2) fun cs_5 => some cs_5
def c_X9_readAggregate_b146 (F : Nat) (T : TC_X9_readExpr) (cs1 : CS) (u0 : Nat) (u2 : Int32) (u3 : Int32) (u4 : Nat) (u5 : Int32) (y0 : Int32) (y1 : Nat) : Option CS := if u5 = 0 then (c_X9_readAggregate_b159 F T cs1 u0 u2 u4 1 u3 u3 u2 y0 y1) else (c_X9_readAggregate_b159 F T cs1 u0 u2 u4 0 u3 u3 u2 y0 y1)
def c_X9_readAggregate_b113 (F : Nat) (T : TC_X9_readExpr) (cs1 : CS) (u0 : Nat) (u1 : Int32) (u2 : Int32) (u3 : Int32) (u4 : Nat) (u5 : Int32) : Option CS := Option.bind (pI cs1 10 331 u0 1) fun cs_8 => Option.bind (ckE cs_8 10 u0) fun _ => Option.bind (c_X9_expect F cs_8 u0 42) fun cs_9 => Option.bind (gI cs_9 10 329 u0) fun v_11 => Option.bind (pI cs_9 10 329 u0 (v_11 - 1)) fun cs_12 => if u5 = 0 then (c_X9_readAggregate_b146 F T cs_12 u0 u2 u3 u4 u5 u1 u0) else (c_X9_readAggregate_b146 F T cs_12 u0 u2 u3 u4 u5 61 u0)
def c_X9_readAggregate_b101 (F : Nat) (T : TC_X9_readExpr) (cs1 : CS) (u0 : Nat) (u1 : Int32) (u2 : Int32) (u3 : Int32) (u4 : Nat) (y0 : Int32) : Option CS := if y0 = 0 then (Option.bind (ckE cs1 10 u0) fun _ => Option.bind (T.1 cs1 u0) fun z_15 => c_X9_readAggregate_b113 F T z_15.1 u0 u1 u2 u3 u4 y0) else (c_X9_readAggregate_b113 F T cs1 u0 u1 u2 u3 u4 y0)
def c_X9_readAggregate_b100 (F : Nat) (T : TC_X9_readExpr) (cs1 : CS) (u0 : Nat) (u1 : Int32) (u2 : Int32) (u3 : Int32) (u4 : Nat) : Option CS := c_X9_readAggregate_b101 F T cs1 u0 u1 u2 u3 u4 0
def c_X9_readAggregate_b60 (F : Nat) (T : TC_X9_readExpr) (cs1 : CS) (u0 : Nat) (u1 : Int32) (u2 : Int32) (u3 : Int32) (u4 : Nat) : Option CS := Option.bind (ckE cs1 10 u0) fun _ => Option.bind (c_X9_deepen F cs1 u0) fun cs_17 => Option.bind (ckE cs_17 10 u0) fun _ => Option.bind (c_X9_accept F cs_17 u0 u1) fun z_19 => Option.bind (ckE z_19.1 10 u0) fun _ => Option.bind (c_X9_expect F z_19.1 u0 41) fun cs_21 => Option.bind (pI cs_21 10 331 u0 0) fun cs_23 => if u1 = 32 then (Option.bind (ckE cs_23 10 u0) fun _ => Option.bind (c_X9_accept F cs_23 u0 47) fun z_25 => if z_25.2 = 0 then (c_X9_readAggregate_b100 F T z_25.1 u0 u1 u2 u3 u4) else (c_X9_readAggregate_b101 F T z_25.1 u0 u1 u2 u3 u4 1)) else (c_X9_readAggregate_b100 F T cs_23 u0 u1 u2 u3 u4)
def cb_X9_readAggregate (F : Nat) (T : TC_X9_readExpr) (cs : CS) (x0 : Nat) : Option CS := Option.bind (ckE cs 10 x0) fun _ => Option.bind (c_X9_kind F cs x0) fun v_28 => Option.bind (gR cs 10 322 x0) fun v_30 => Option.bind (v_30) fun i_31 => Option.bind (gI cs 2 64 i_31) fun v_32 => Option.bind (ckE cs 10 x0) fun _ => Option.bind (c_X9_here F cs x0) fun v_33 => Option.bind (gR cs 10 330 x0) fun v_35 => Option.bind (gI cs 10 331 x0) fun v_36 => if v_36 = 0 then (c_X9_readAggregate_b36 F T cs x0 v_33) else (oc v_35 (c_X9_readAggregate_b36 F T cs x0 v_33) (fun i_38 => Option.bind (gI cs 6 203 i_38) fun v_39 => if v_39 < 12 then (c_X9_readAggregate_b60 F T cs x0 v_28 v_32 v_33 i_38) else (Option.bind (ckE cs 10 x0) fun _ => Option.bind (c_X9_refuse F cs x0 7 v_33) fun cs_41 => c_X9_readAggregate_b60 F T cs_41 x0 v_28 v_32 v_33 i_38)))
theorem dX9_readList_0 : decode cX9_readList 0 = .ok (.aload_n 0, 1) := by decide +kernel
theorem dX9_readList_1 : decode cX9_readList 1 = .ok (.bipush 27, 2) := by decide +kernel
theorem dX9_readList_3 : decode cX9_readList 3 = .ok (.invokevirtual 60, 3) := by decide +kernel
theorem dX9_readList_6 : decode cX9_readList 6 = .ok (.aload_n 0, 1) := by decide +kernel
theorem dX9_readList_7 : decode cX9_readList 7 = .ok (.bipush 41, 2) := by decide +kernel
theorem dX9_readList_9 : decode cX9_readList 9 = .ok (.invokevirtual 60, 3) := by decide +kernel
theorem dX9_readList_12 : decode cX9_readList 12 = .ok (.iconst 0, 1) := by decide +kernel
theorem dX9_readList_13 : decode cX9_readList 13 = .ok (.istore 5, 2) := by decide +kernel
theorem dX9_readList_15 : decode cX9_readList 15 = .ok (.iconst 1, 1) := by decide +kernel
theorem dX9_readList_16 : decode cX9_readList 16 = .ok (.istore 6, 2) := by decide +kernel
theorem dX9_readList_18 : decode cX9_readList 18 = .ok (.iconst 0, 1) := by decide +kernel
theorem dX9_readList_19 : decode cX9_readList 19 = .ok (.istore 7, 2) := by decide +kernel
theorem dX9_readList_21 : decode cX9_readList 21 = .ok (.iload 7, 2) := by decide +kernel
theorem dX9_readList_23 : decode cX9_readList 23 = .ok (.sipush 2000, 3) := by decide +kernel
theorem dX9_readList_26 : decode cX9_readList 26 = .ok (.if_icmp .ge 46, 3) := by decide +kernel
theorem dX9_readList_29 : decode cX9_readList 29 = .ok (.iload 6, 2) := by decide +kernel
theorem dX9_readList_31 : decode cX9_readList 31 = .ok (.ifCond .eq 41, 3) := by decide +kernel
theorem dX9_readList_34 : decode cX9_readList 34 = .ok (.aload_n 0, 1) := by decide +kernel
theorem dX9_readList_35 : decode cX9_readList 35 = .ok (.iload 5, 2) := by decide +kernel
theorem dX9_readList_37 : decode cX9_readList 37 = .ok (.bipush 8, 2) := by decide +kernel
theorem dX9_readList_39 : decode cX9_readList 39 = .ok (.if_icmp .lt 7, 3) := by decide +kernel
theorem dX9_readList_42 : decode cX9_readList 42 = .ok (.iconst 1, 1) := by decide +kernel
theorem dX9_readList_43 : decode cX9_readList 43 = .ok (.goto 4, 3) := by decide +kernel
theorem dX9_readList_46 : decode cX9_readList 46 = .ok (.iconst 0, 1) := by decide +kernel
theorem dX9_readList_47 : decode cX9_readList 47 = .ok (.iconst 0, 1) := by decide +kernel
theorem dX9_readList_48 : decode cX9_readList 48 = .ok (.invokevirtual 170, 3) := by decide +kernel
theorem dX9_readList_51 : decode cX9_readList 51 = .ok (.aload_n 0, 1) := by decide +kernel
theorem dX9_readList_52 : decode cX9_readList 52 = .ok (.invokevirtual 315, 3) := by decide +kernel
theorem dX9_readList_55 : decode cX9_readList 55 = .ok (.iinc 5 1, 3) := by decide +kernel
theorem dX9_readList_58 : decode cX9_readList 58 = .ok (.aload_n 0, 1) := by decide +kernel
theorem dX9_readList_59 : decode cX9_readList 59 = .ok (.bipush 43, 2) := by decide +kernel
theorem dX9_readList_61 : decode cX9_readList 61 = .ok (.invokevirtual 48, 3) := by decide +kernel
theorem dX9_readList_64 : decode cX9_readList 64 = .ok (.istore 6, 2) := by decide +kernel
theorem dX9_readList_66 : decode cX9_readList 66 = .ok (.iinc 7 1, 3) := by decide +kernel
theorem dX9_readList_69 : decode cX9_readList 69 = .ok (.goto (-48), 3) := by decide +kernel
theorem dX9_readList_72 : decode cX9_readList 72 = .ok (.aload_n 0, 1) := by decide +kernel
theorem dX9_readList_73 : decode cX9_readList 73 = .ok (.bipush 42, 2) := by decide +kernel
theorem dX9_readList_75 : decode cX9_readList 75 = .ok (.invokevirtual 60, 3) := by decide +kernel
theorem dX9_readList_78 : decode cX9_readList 78 = .ok (.aload_n 0, 1) := by decide +kernel
theorem dX9_readList_79 : decode cX9_readList 79 = .ok (.iload_n 1, 1) := by decide +kernel
theorem dX9_readList_80 : decode cX9_readList 80 = .ok (.iload_n 2, 1) := by decide +kernel
theorem dX9_readList_81 : decode cX9_readList 81 = .ok (.iload_n 3, 1) := by decide +kernel
theorem dX9_readList_82 : decode cX9_readList 82 = .ok (.iload 4, 2) := by decide +kernel
theorem dX9_readList_84 : decode cX9_readList 84 = .ok (.iload 5, 2) := by decide +kernel
theorem dX9_readList_86 : decode cX9_readList 86 = .ok (.iconst 1, 1) := by decide +kernel
theorem dX9_readList_87 : decode cX9_readList 87 = .ok (.iadd, 1) := by decide +kernel
theorem dX9_readList_88 : decode cX9_readList 88 = .ok (.invokevirtual 305, 3) := by decide +kernel
theorem dX9_readList_91 : decode cX9_readList 91 = .ok (.pop, 1) := by decide +kernel
theorem dX9_readList_92 : decode cX9_readList 92 = .ok (.return_, 1) := by decide +kernel
def c_X9_readList_b72 (F : Nat) (T : TC_X9_readExpr) (cs1 : CS) (u0 : Nat) (u1 : Int32) (u2 : Int32) (u3 : Int32) (u4 : Int32) (u5 : Int32) : Option CS := Option.bind (ckE cs1 10 u0) fun _ => Option.bind (c_X9_expect F cs1 u0 42) fun cs_1 => Option.bind (ckE cs_1 10 u0) fun _ => Option.bind (c_X9_complete F cs_1 u0 u1 u2 u3 u4 (u5 + 1)) fun z_3 => some z_3.1
def c_X9_readList_b47 (F : Nat) (T : TC_X9_readExpr) (rc21 : CS → Nat → Int32 → Int32 → Int32 → Int32 → Int32 → Int32 → Int32 → Option CS) (cs1 : CS) (u0 : Nat) (u1 : Int32) (u2 : Int32) (u3 : Int32) (u4 : Int32) (u5 : Int32) (u7 : Int32) (y0 : Int32) (y1 : Nat) : Option CS := Option.bind (ckE cs1 10 y1) fun _ => Option.bind (c_X9_refuseNinth F cs1 y1 y0 0) fun cs_5 => Option.bind (ckE cs_5 10 u0) fun _ => Option.bind (T.2.2.2.2.1 cs_5 u0) fun cs_7 => Option.bind (ckE cs_7 10 u0) fun _ => Option.bind (c_X9_accept F cs_7 u0 43) fun z_9 => rc21 z_9.1 u0 u1 u2 u3 u4 (u5 + 1) z_9.2 (u7 + 1)
def c_X9_readList_L21 (F : Nat) (T : TC_X9_readExpr) : Nat → CS → Nat → Int32 → Int32 → Int32 → Int32 → Int32 → Int32 → Int32 → Option CS
  | 0, _, _, _, _, _, _, _, _, _ => none
  | lf_21 + 1, cs1, u0, u1, u2, u3, u4, u5, u6, u7 => if 2000 ≤ u7 then (c_X9_readList_b72 F T cs1 u0 u1 u2 u3 u4 u5) else (if u6 = 0 then (c_X9_readList_b72 F T cs1 u0 u1 u2 u3 u4 u5) else (if u5 < 8 then (c_X9_readList_b47 F T (c_X9_readList_L21 F T lf_21) cs1 u0 u1 u2 u3 u4 u5 u7 0 u0) else (c_X9_readList_b47 F T (c_X9_readList_L21 F T lf_21) cs1 u0 u1 u2 u3 u4 u5 u7 1 u0)))
def cb_X9_readList (F : Nat) (T : TC_X9_readExpr) (cs : CS) (x0 : Nat) (x1 : Int32) (x2 : Int32) (x3 : Int32) (x4 : Int32) : Option CS := Option.bind (ckE cs 10 x0) fun _ => Option.bind (c_X9_expect F cs x0 27) fun cs_14 => Option.bind (ckE cs_14 10 x0) fun _ => Option.bind (c_X9_expect F cs_14 x0 41) fun cs_16 => c_X9_readList_L21 F T F cs_16 x0 x1 x2 x3 x4 0 1 0
theorem cw_X9_X9_readExpr {R : Room} {s : State} {args : Array Value} {y0 : MethodName} {c0 : ByteArray} {n0 : Nat} {r0 : Option FieldType} (hts : ∀ w ∈ wsOf y0 c0 n0 r0, w.before args s = true) {fr : Nat} (h1 : fr + 1 ≤ R.frames) (h2 : 8 + (5 + 11) + 60 * fr ≤ R.locals) : CallW R s args RX9 RX9 174 yX9_readExpr cX9_readExpr 5 (some .int) (wsOf yX9_readExpr cX9_readExpr 5 (some .int)) ({ frames := fr, cells := 0, slots := 0, locals := 60 * fr } : Room) 0 0 0 := cwV 0 hts (gd_all (in_V kw_947 kw_949 kw_20 kw_193 kc_X9_readExpr)) rfl rfl rfl (by decide +kernel) ⟨h1, h2⟩
theorem cw_X9_X9_readConjunction {R : Room} {s : State} {args : Array Value} {y0 : MethodName} {c0 : ByteArray} {n0 : Nat} {r0 : Option FieldType} (hts : ∀ w ∈ wsOf y0 c0 n0 r0, w.before args s = true) {fr : Nat} (h1 : fr + 1 ≤ R.frames) (h2 : 8 + (5 + 11) + 60 * fr ≤ R.locals) : CallW R s args RX9 RX9 302 yX9_readConjunction cX9_readConjunction 5 none (wsOf yX9_readConjunction cX9_readConjunction 5 none) ({ frames := fr, cells := 0, slots := 0, locals := 60 * fr } : Room) 0 0 0 := cwV 0 hts (gd_all (in_V kw_951 kw_953 kw_21 kw_193 kc_X9_readConjunction)) rfl rfl rfl (by decide +kernel) ⟨h1, h2⟩
theorem cw_X9_X9_readNegation {R : Room} {s : State} {args : Array Value} {y0 : MethodName} {c0 : ByteArray} {n0 : Nat} {r0 : Option FieldType} (hts : ∀ w ∈ wsOf y0 c0 n0 r0, w.before args s = true) {fr : Nat} (h1 : fr + 1 ≤ R.frames) (h2 : 8 + (3 + 11) + 60 * fr ≤ R.locals) : CallW R s args RX9 RX9 309 yX9_readNegation cX9_readNegation 3 none (wsOf yX9_readNegation cX9_readNegation 3 none) ({ frames := fr, cells := 0, slots := 0, locals := 60 * fr } : Room) 0 0 0 := cwV 0 hts (gd_all (in_V kw_955 kw_957 kw_22 kw_193 kc_X9_readNegation)) rfl rfl rfl (by decide +kernel) ⟨h1, h2⟩
theorem cw_X9_X9_readTest {R : Room} {s : State} {args : Array Value} {y0 : MethodName} {c0 : ByteArray} {n0 : Nat} {r0 : Option FieldType} (hts : ∀ w ∈ wsOf y0 c0 n0 r0, w.before args s = true) {fr : Nat} (h1 : fr + 1 ≤ R.frames) (h2 : 8 + (6 + 11) + 60 * fr ≤ R.locals) : CallW R s args RX9 RX9 312 yX9_readTest cX9_readTest 6 none (wsOf yX9_readTest cX9_readTest 6 none) ({ frames := fr, cells := 0, slots := 0, locals := 60 * fr } : Room) 0 0 0 := cwV 0 hts (gd_all (in_V kw_959 kw_961 kw_23 kw_193 kc_X9_readTest)) rfl rfl rfl (by decide +kernel) ⟨h1, h2⟩
theorem cw_X9_X9_readSum {R : Room} {s : State} {args : Array Value} {y0 : MethodName} {c0 : ByteArray} {n0 : Nat} {r0 : Option FieldType} (hts : ∀ w ∈ wsOf y0 c0 n0 r0, w.before args s = true) {fr : Nat} (h1 : fr + 1 ≤ R.frames) (h2 : 8 + (6 + 11) + 60 * fr ≤ R.locals) : CallW R s args RX9 RX9 315 yX9_readSum cX9_readSum 6 none (wsOf yX9_readSum cX9_readSum 6 none) ({ frames := fr, cells := 0, slots := 0, locals := 60 * fr } : Room) 0 0 0 := cwV 0 hts (gd_all (in_V kw_963 kw_965 kw_24 kw_193 kc_X9_readSum)) rfl rfl rfl (by decide +kernel) ⟨h1, h2⟩
theorem cw_X9_X9_readPart {R : Room} {s : State} {args : Array Value} {y0 : MethodName} {c0 : ByteArray} {n0 : Nat} {r0 : Option FieldType} (hts : ∀ w ∈ wsOf y0 c0 n0 r0, w.before args s = true) {fr : Nat} (h1 : fr + 1 ≤ R.frames) (h2 : 8 + (6 + 11) + 60 * fr ≤ R.locals) : CallW R s args RX9 RX9 322 yX9_readPart cX9_readPart 6 none (wsOf yX9_readPart cX9_readPart 6 none) ({ frames := fr, cells := 0, slots := 0, locals := 60 * fr } : Room) 0 0 0 := cwV 0 hts (gd_all (in_V kw_967 kw_969 kw_25 kw_193 kc_X9_readPart)) rfl rfl rfl (by decide +kernel) ⟨h1, h2⟩
theorem cw_X9_X9_readSign {R : Room} {s : State} {args : Array Value} {y0 : MethodName} {c0 : ByteArray} {n0 : Nat} {r0 : Option FieldType} (hts : ∀ w ∈ wsOf y0 c0 n0 r0, w.before args s = true) {fr : Nat} (h1 : fr + 1 ≤ R.frames) (h2 : 8 + (3 + 11) + 60 * fr ≤ R.locals) : CallW R s args RX9 RX9 325 yX9_readSign cX9_readSign 3 none (wsOf yX9_readSign cX9_readSign 3 none) ({ frames := fr, cells := 0, slots := 0, locals := 60 * fr } : Room) 0 0 0 := cwV 0 hts (gd_all (in_V kw_971 kw_973 kw_26 kw_193 kc_X9_readSign)) rfl rfl rfl (by decide +kernel) ⟨h1, h2⟩
theorem cw_X9_X9_readOne {R : Room} {s : State} {args : Array Value} {y0 : MethodName} {c0 : ByteArray} {n0 : Nat} {r0 : Option FieldType} (hts : ∀ w ∈ wsOf y0 c0 n0 r0, w.before args s = true) {fr : Nat} (h1 : fr + 1 ≤ R.frames) (h2 : 8 + (1 + 11) + 60 * fr ≤ R.locals) : CallW R s args RX9 RX9 328 yX9_readOne cX9_readOne 1 none (wsOf yX9_readOne cX9_readOne 1 none) ({ frames := fr, cells := 0, slots := 0, locals := 60 * fr } : Room) 0 0 0 := cwV 0 hts (gd_all (in_V kw_975 kw_977 kw_27 kw_193 kc_X9_readOne)) rfl rfl rfl (by decide +kernel) ⟨h1, h2⟩
theorem cw_X9_X9_readCase {R : Room} {s : State} {args : Array Value} {y0 : MethodName} {c0 : ByteArray} {n0 : Nat} {r0 : Option FieldType} (hts : ∀ w ∈ wsOf y0 c0 n0 r0, w.before args s = true) {fr : Nat} (h1 : fr + 1 ≤ R.frames) (h2 : 8 + (3 + 11) + 60 * fr ≤ R.locals) : CallW R s args RX9 RX9 337 yX9_readCase cX9_readCase 3 none (wsOf yX9_readCase cX9_readCase 3 none) ({ frames := fr, cells := 0, slots := 0, locals := 60 * fr } : Room) 0 0 0 := cwV 0 hts (gd_all (in_V kw_1009 kw_1011 kw_33 kw_193 kc_X9_readCase)) rfl rfl rfl (by decide +kernel) ⟨h1, h2⟩
theorem cw_X9_X9_readSpan {R : Room} {s : State} {args : Array Value} {y0 : MethodName} {c0 : ByteArray} {n0 : Nat} {r0 : Option FieldType} (hts : ∀ w ∈ wsOf y0 c0 n0 r0, w.before args s = true) {fr : Nat} (h1 : fr + 1 ≤ R.frames) (h2 : 8 + (3 + 11) + 60 * fr ≤ R.locals) : CallW R s args RX9 RX9 340 yX9_readSpan cX9_readSpan 3 none (wsOf yX9_readSpan cX9_readSpan 3 none) ({ frames := fr, cells := 0, slots := 0, locals := 60 * fr } : Room) 0 0 0 := cwV 0 hts (gd_all (in_V kw_1013 kw_1015 kw_34 kw_193 kc_X9_readSpan)) rfl rfl rfl (by decide +kernel) ⟨h1, h2⟩
theorem cw_X9_X9_readAggregate {R : Room} {s : State} {args : Array Value} {y0 : MethodName} {c0 : ByteArray} {n0 : Nat} {r0 : Option FieldType} (hts : ∀ w ∈ wsOf y0 c0 n0 r0, w.before args s = true) {fr : Nat} (h1 : fr + 1 ≤ R.frames) (h2 : 8 + (7 + 11) + 60 * fr ≤ R.locals) : CallW R s args RX9 RX9 343 yX9_readAggregate cX9_readAggregate 7 none (wsOf yX9_readAggregate cX9_readAggregate 7 none) ({ frames := fr, cells := 0, slots := 0, locals := 60 * fr } : Room) 0 0 0 := cwV 0 hts (gd_all (in_V kw_1017 kw_1019 kw_35 kw_193 kc_X9_readAggregate)) rfl rfl rfl (by decide +kernel) ⟨h1, h2⟩
theorem cw_X9_X9_readList {R : Room} {s : State} {args : Array Value} {y0 : MethodName} {c0 : ByteArray} {n0 : Nat} {r0 : Option FieldType} (hts : ∀ w ∈ wsOf y0 c0 n0 r0, w.before args s = true) {fr : Nat} (h1 : fr + 1 ≤ R.frames) (h2 : 8 + (8 + 11) + 60 * fr ≤ R.locals) : CallW R s args RX9 RX9 318 yX9_readList cX9_readList 8 none (wsOf yX9_readList cX9_readList 8 none) ({ frames := fr, cells := 0, slots := 0, locals := 60 * fr } : Room) 0 0 4 := cwV 4 hts (gd_all (in_V kw_1025 kw_1027 kw_37 kw_193 kc_X9_readList)) rfl rfl rfl (by decide +kernel) ⟨h1, h2⟩
def tabc_X9_readExpr (F : Nat) : Nat → TC_X9_readExpr
  | 0 => (fun _ _ => none, fun _ _ => none, fun _ _ => none, fun _ _ => none, fun _ _ => none, fun _ _ => none, fun _ _ => none, fun _ _ => none, fun _ _ => none, fun _ _ => none, fun _ _ => none, fun _ _ _ _ _ _ => none)
  | n + 1 => (cb_X9_readExpr F (tabc_X9_readExpr F n), cb_X9_readConjunction F (tabc_X9_readExpr F n), cb_X9_readNegation F (tabc_X9_readExpr F n), cb_X9_readTest F (tabc_X9_readExpr F n), cb_X9_readSum F (tabc_X9_readExpr F n), cb_X9_readPart F (tabc_X9_readExpr F n), cb_X9_readSign F (tabc_X9_readExpr F n), cb_X9_readOne F (tabc_X9_readExpr F n), cb_X9_readCase F (tabc_X9_readExpr F n), cb_X9_readSpan F (tabc_X9_readExpr F n), cb_X9_readAggregate F (tabc_X9_readExpr F n), cb_X9_readList F (tabc_X9_readExpr F n))
set_option maxHeartbeats 4000000 in
set_option maxRecDepth 100000 in
theorem sbc_X9_readExpr (l : Launch) (dC : Nat → ClassId) (dI : Nat → Nat → Nat) (cB cI cJ cZ cS cO : ClassId) (b : Nat) (K V : Nat → Nat) (fz : Value) (F : Nat) (n : Nat) (T : TC_X9_readExpr) (hT_X9_readExpr : ∀ (cs : CS) (x0 : Nat) (cs9 : CS) (r9 : Int32), T.1 cs x0 = some (cs9, r9) → ocI l dC dI cB cI cJ cZ cS cO b K V fz yX9_readExpr (wsOf yX9_readExpr cX9_readExpr 5 (some .int)) (n + 3) [.ref (b + x0)] cs cs9 r9) (hT_X9_readConjunction : ∀ (cs : CS) (x0 : Nat) (cs9 : CS), T.2.1 cs x0 = some cs9 → ocV l dC dI cB cI cJ cZ cS cO b K V fz yX9_readConjunction (wsOf yX9_readConjunction cX9_readConjunction 5 none) (n + 3) [.ref (b + x0)] cs cs9) (hT_X9_readNegation : ∀ (cs : CS) (x0 : Nat) (cs9 : CS), T.2.2.1 cs x0 = some cs9 → ocV l dC dI cB cI cJ cZ cS cO b K V fz yX9_readNegation (wsOf yX9_readNegation cX9_readNegation 3 none) (n + 3) [.ref (b + x0)] cs cs9) (hT_X9_readTest : ∀ (cs : CS) (x0 : Nat) (cs9 : CS), T.2.2.2.1 cs x0 = some cs9 → ocV l dC dI cB cI cJ cZ cS cO b K V fz yX9_readTest (wsOf yX9_readTest cX9_readTest 6 none) (n + 3) [.ref (b + x0)] cs cs9) (hT_X9_readSum : ∀ (cs : CS) (x0 : Nat) (cs9 : CS), T.2.2.2.2.1 cs x0 = some cs9 → ocV l dC dI cB cI cJ cZ cS cO b K V fz yX9_readSum (wsOf yX9_readSum cX9_readSum 6 none) (n + 3) [.ref (b + x0)] cs cs9) (hT_X9_readPart : ∀ (cs : CS) (x0 : Nat) (cs9 : CS), T.2.2.2.2.2.1 cs x0 = some cs9 → ocV l dC dI cB cI cJ cZ cS cO b K V fz yX9_readPart (wsOf yX9_readPart cX9_readPart 6 none) (n + 3) [.ref (b + x0)] cs cs9) (hT_X9_readSign : ∀ (cs : CS) (x0 : Nat) (cs9 : CS), T.2.2.2.2.2.2.1 cs x0 = some cs9 → ocV l dC dI cB cI cJ cZ cS cO b K V fz yX9_readSign (wsOf yX9_readSign cX9_readSign 3 none) (n + 3) [.ref (b + x0)] cs cs9) (hT_X9_readOne : ∀ (cs : CS) (x0 : Nat) (cs9 : CS), T.2.2.2.2.2.2.2.1 cs x0 = some cs9 → ocV l dC dI cB cI cJ cZ cS cO b K V fz yX9_readOne (wsOf yX9_readOne cX9_readOne 1 none) (n + 3) [.ref (b + x0)] cs cs9) (hT_X9_readCase : ∀ (cs : CS) (x0 : Nat) (cs9 : CS), T.2.2.2.2.2.2.2.2.1 cs x0 = some cs9 → ocV l dC dI cB cI cJ cZ cS cO b K V fz yX9_readCase (wsOf yX9_readCase cX9_readCase 3 none) (n + 3) [.ref (b + x0)] cs cs9) (hT_X9_readSpan : ∀ (cs : CS) (x0 : Nat) (cs9 : CS), T.2.2.2.2.2.2.2.2.2.1 cs x0 = some cs9 → ocV l dC dI cB cI cJ cZ cS cO b K V fz yX9_readSpan (wsOf yX9_readSpan cX9_readSpan 3 none) (n + 3) [.ref (b + x0)] cs cs9) (hT_X9_readAggregate : ∀ (cs : CS) (x0 : Nat) (cs9 : CS), T.2.2.2.2.2.2.2.2.2.2.1 cs x0 = some cs9 → ocV l dC dI cB cI cJ cZ cS cO b K V fz yX9_readAggregate (wsOf yX9_readAggregate cX9_readAggregate 7 none) (n + 3) [.ref (b + x0)] cs cs9) (hT_X9_readList : ∀ (cs : CS) (x0 : Nat) (x1 : Int32) (x2 : Int32) (x3 : Int32) (x4 : Int32) (cs9 : CS), T.2.2.2.2.2.2.2.2.2.2.2 cs x0 x1 x2 x3 x4 = some cs9 → ocV l dC dI cB cI cJ cZ cS cO b K V fz yX9_readList (wsOf yX9_readList cX9_readList 8 none) (n + 3) [.ref (b + x0), .int x1, .int x2, .int x3, .int x4] cs cs9) (cs : CS) (x0 : Nat) (cs9 : CS) (r9 : Int32) (hf : cb_X9_readExpr F T cs x0 = some (cs9, r9)) : ocI l dC dI cB cI cJ cZ cS cO b K V fz yX9_readExpr (wsOf yX9_readExpr cX9_readExpr 5 (some .int)) (n + 1 + 3) [.ref (b + x0)] cs cs9 r9 := by
  intro sz
  refine Met.ofW (cc := cX9_readExpr) (maxL := 5) (ret := (some .int)) (by decide) rfl ?_
  intro p e s m args below meth c s₁ B hml hv
  obtain ⟨rfl, hsz, hP, hK, hD0, hZ⟩ := hv
  have hx := B.exec
  have hb := B.bytes
  have hr := B.returns
  have hts := atoms_spec (ws := (wsOf yX9_readExpr cX9_readExpr 5 (some .int))) B.pre
  have hown : s.vm.findClass RX9 = some m.cls := findClass_of_methodNamed B.named
  have hlocks := B.notSynchronized
  subst hsz
  have hD := hD0.self (sz := s.heap.size)
  generalize hAe : va_A (cW cB cI cJ cZ cS cO b cs) s.heap.size = A at hD hZ ⊢
  have hA : ∀ q : Nat, s.heap.size ≤ q → A q := fun q h => by rw [← hAe]; exact Or.inr h
  have hS : va_S A s.heap s.heap [] := va_S.rf
  have hl := lv_entry ([.ref (b + x0)]) (n := 5) (Nat.le_of_ble_eq_true rfl)
  rw [lg_entry_eq]
  generalize (lg_sl ([.ref (b + x0)]) ++ List.replicate (5 - (lg_sl ([.ref (b + x0)])).length) Slot.unset).toArray = ls at hl ⊢
  have hl : lv_has ls 5 [(0, .ref (b + x0))] := hl
  have B_73 : ∀ (cs1 : CS) (u0 : Nat), c_X9_readExpr_b73 F T cs1 u0 = some (cs9, r9) → ∀ (H : Heap) (locs : List Loc) (ls : Array Slot), va_P (dC, dI) vwCl (cW cB cI cJ cZ cS cO b cs1) H → va_D A (cW cB cI cJ cZ cS cO b cs1) → va_S A s.heap H locs → lv_has ls 5 [(0, .ref (b + u0))] → W p l e (headSpec (wsOf yX9_readExpr cX9_readExpr 5 (some .int)) ({ frames := n + 1 + 3, cells := 0, slots := 0, locals := 60 * (n + 1 + 3) } : Room)).room s m ([.ref (b + x0)] : List Value).toArray below meth c H locs 0 0 (MQ below (va_Qi (fun (x : Int32) (_ : Unit) => x = r9) (fun _ t_ => va_P (dC, dI) vwCl (cW cB cI cJ cZ cS cO b cs9) t_.heap ∧ va_D A (cW cB cI cJ cZ cS cO b cs9)) A) ([.ref (b + x0)] : List Value).toArray s 0 0 A) (F0 m 73 ls []) := by
    intro cs1 u0 h H locs ls hP hD hS hl
    unfold c_X9_readExpr_b73 at h
    refine lv_aload_n hx hb dX9_readExpr_73 rfl (lv_at hl 0 rfl) ?_
    replace h := ob h; obtain ⟨v_1, hv_1, h⟩ := h
    refine fg_X9_26 hx hb hts hown hK hP hv_1 dX9_readExpr_74 ?_
    replace h := ob h; obtain ⟨i_2, hi_2, h⟩ := h
    subst hi_2
    replace h := ob h; obtain ⟨v_3, hv_3, h⟩ := h
    refine fg_X9_296 hx hb hts hown hK hP hv_3 dX9_readExpr_77 ?_
    refine lv_iconst (v := 1) hx hb dX9_readExpr_80 (by decide) ?_
    refine lv_isub hx hb dX9_readExpr_81 ?_
    obtain ⟨e1, e2⟩ := Prod.mk.inj (Option.some.inj h)
    rw [e1] at hP hD
    exact W.iret (v := v_3 - 1) hx hb hr (fun t_ ht hW => ⟨⟨v_3 - 1, (), rfl, e2, by rw [ht]; exact hP, hD⟩, hS.F ht⟩) hS.2.2 dX9_readExpr_82
  have L_19 : ∀ (lf_19 : Nat), ∀ (cs1 : CS) (u0 : Nat) (u1 : Int32) (u2 : Int32) (u3 : Int32), c_X9_readExpr_L19 F T lf_19 cs1 u0 u1 u2 u3 = some (cs9, r9) → ∀ (H : Heap) (locs : List Loc) (ls : Array Slot), va_P (dC, dI) vwCl (cW cB cI cJ cZ cS cO b cs1) H → va_D A (cW cB cI cJ cZ cS cO b cs1) → va_S A s.heap H locs → lv_has ls 5 [(0, .ref (b + u0)), (1, .int u1), (2, .int u2), (3, .int u3)] → W p l e (headSpec (wsOf yX9_readExpr cX9_readExpr 5 (some .int)) ({ frames := n + 1 + 3, cells := 0, slots := 0, locals := 60 * (n + 1 + 3) } : Room)).room s m ([.ref (b + x0)] : List Value).toArray below meth c H locs 0 0 (MQ below (va_Qi (fun (x : Int32) (_ : Unit) => x = r9) (fun _ t_ => va_P (dC, dI) vwCl (cW cB cI cJ cZ cS cO b cs9) t_.heap ∧ va_D A (cW cB cI cJ cZ cS cO b cs9)) A) ([.ref (b + x0)] : List Value).toArray s 0 0 A) (F0 m 19 ls []) := by
    intro lf_19
    induction lf_19 with
    | zero => intro cs1 u0 u1 u2 u3 h; cases (show (none : Option (CS × Int32)) = _ from h)
    | succ lf_19 ih_19 =>
      intro cs1 u0 u1 u2 u3 h H locs ls hP hD hS hl
      rw [c_X9_readExpr_L19] at h
      refine lv_iload_n hx hb dX9_readExpr_19 rfl (lv_at hl 3 rfl) ?_
      refine lv_sipush (v := 2000) hx hb dX9_readExpr_20 (by decide) ?_
      refine lv_icmp_ge (tgt := 73) hx hb dX9_readExpr_23 (by decide) (fun c_4 => ?_) (fun c_4 => ?_)
      · skip
        replace h := (if_pos c_4).symm.trans h
        exact B_73 cs1 u0 h _ _ _ hP hD hS (lv_sub hl [0] rfl)
      · skip
        replace h := (if_neg c_4).symm.trans h
        refine lv_aload_n hx hb dX9_readExpr_26 rfl (lv_at hl 0 rfl) ?_
        replace h := ob h; obtain ⟨w_6, hw_6, h⟩ := h
        replace h := ob h; obtain ⟨v_5, hv_5, h⟩ := h
        refine ccI (As := []) hx hb hml hts hown hK hP hD hS hA hZ (X := 10) (by decide) rfl (ckE_some hw_6) (sc_X9_kind l dC dI cB cI cJ cZ cS cO b K V fz F cs1 u0 v_5 hv_5) (cw_X9_X9_kind hts (fr := 0) (by show 0 + 1 ≤ n + 1 + 3; omega) (by show 8 + (1 + 11) + 60 * (0) ≤ 60 * (n + 1 + 3); omega)) rfl hl.1 (Nat.le_of_ble_eq_true rfl) ⟨Nat.zero_le _, Nat.zero_le _⟩ dX9_readExpr_27 (fun H locs hP hD hS => ?_)
        refine lv_bipush (v := 29) hx hb dX9_readExpr_30 (by decide) ?_
        refine lv_icmp_ne (tgt := 73) hx hb dX9_readExpr_32 (by decide) (fun c_7 => ?_) (fun c_7 => ?_)
        · skip
          replace h := (if_neg c_7).symm.trans h
          exact B_73 cs1 u0 h _ _ _ hP hD hS (lv_sub hl [0] rfl)
        · skip
          replace h := (if_pos c_7).symm.trans h
          refine lv_aload_n hx hb dX9_readExpr_35 rfl (lv_at hl 0 rfl) ?_
          replace h := ob h; obtain ⟨w_9, hw_9, h⟩ := h
          replace h := ob h; obtain ⟨v_8, hv_8, h⟩ := h
          refine ccI (As := []) hx hb hml hts hown hK hP hD hS hA hZ (X := 10) (by decide) rfl (ckE_some hw_9) (sc_X9_here l dC dI cB cI cJ cZ cS cO b K V fz F cs1 u0 v_8 hv_8) (cw_X9_X9_here hts (fr := 0) (by show 0 + 1 ≤ n + 1 + 3; omega) (by show 8 + (1 + 11) + 60 * (0) ≤ 60 * (n + 1 + 3); omega)) rfl hl.1 (Nat.le_of_ble_eq_true rfl) ⟨Nat.zero_le _, Nat.zero_le _⟩ dX9_readExpr_36 (fun H locs hP hD hS => ?_)
          refine lv_istore (lv' := [(4, .int v_8), (0, .ref (b + u0)), (1, .int u1), (2, .int u2), (3, .int u3)]) hx hb dX9_readExpr_39 hl (by decide) rfl (fun ls hl => ?_)
          refine lv_aload_n hx hb dX9_readExpr_41 rfl (lv_at hl 1 rfl) ?_
          refine lv_dup hx hb dX9_readExpr_42 rfl ?_
          replace h := ob h; obtain ⟨v_10, hv_10, h⟩ := h
          refine fg_X9_99 hx hb hts hown hK hP hv_10 dX9_readExpr_43 ?_
          refine lv_iconst (v := 1) hx hb dX9_readExpr_46 (by decide) ?_
          refine lv_iadd hx hb dX9_readExpr_47 ?_
          replace h := ob h; obtain ⟨cs_11, hv_11, h⟩ := h
          refine fp_X9_99 hx hb hts hown hK hP hD hS hv_11 dX9_readExpr_48 (fun H locs hP hD hS => ?_)
          refine lv_aload_n hx hb dX9_readExpr_51 rfl (lv_at hl 1 rfl) ?_
          replace h := ob h; obtain ⟨w_13, hw_13, h⟩ := h
          replace h := ob h; obtain ⟨cs_12, hv_12, h⟩ := h
          refine ccV (As := []) hx hb hml hts hown hK hP hD hS hA hZ (X := 10) (by decide) rfl (ckE_some hw_13) (hT_X9_readConjunction cs_11 u0 cs_12 hv_12) (cw_X9_X9_readConjunction hts (fr := n + 3) (by show n + 3 + 1 ≤ n + 1 + 3; omega) (by show 8 + (5 + 11) + 60 * (n + 3) ≤ 60 * (n + 1 + 3); omega)) rfl hl.1 (Nat.le_of_ble_eq_true rfl) ⟨Nat.zero_le _, Nat.zero_le _⟩ dX9_readExpr_52 (fun H locs hP hD hS => ?_)
          refine lv_aload_n hx hb dX9_readExpr_55 rfl (lv_at hl 1 rfl) ?_
          refine lv_bipush (v := 29) hx hb dX9_readExpr_56 (by decide) ?_
          refine lv_iload_n hx hb dX9_readExpr_58 rfl (lv_at hl 2 rfl) ?_
          refine lv_iload_n hx hb dX9_readExpr_59 rfl (lv_at hl 3 rfl) ?_
          refine lv_iload hx hb dX9_readExpr_60 (lv_at hl 0 rfl) ?_
          refine lv_iconst (v := 2) hx hb dX9_readExpr_62 (by decide) ?_
          replace h := ob h; obtain ⟨w_15, hw_15, h⟩ := h
          replace h := ob h; obtain ⟨z_14, hv_14, h⟩ := h
          refine ccI (As := [.int 29, .int u1, .int u2, .int v_8, .int 2]) hx hb hml hts hown hK hP hD hS hA hZ (X := 10) (by decide) rfl (ckE_some hw_15) (sc_X9_complete l dC dI cB cI cJ cZ cS cO b K V fz F cs_12 u0 29 u1 u2 v_8 2 z_14.1 z_14.2 hv_14) (cw_X9_X9_complete hts (fr := 1) (by show 1 + 1 ≤ n + 1 + 3; omega) (by show 8 + (6 + 11) + 60 * (1) ≤ 60 * (n + 1 + 3); omega)) rfl hl.1 (Nat.le_of_ble_eq_true rfl) ⟨Nat.zero_le _, Nat.zero_le _⟩ dX9_readExpr_63 (fun H locs hP hD hS => ?_)
          refine lv_pop hx hb dX9_readExpr_66 rfl ?_
          refine lv_iinc (v := u3 + 1) (lv' := [(3, .int (u3 + 1)), (4, .int v_8), (0, .ref (b + u0)), (1, .int u1), (2, .int u2)]) hx hb dX9_readExpr_67 hl (k := 4) rfl rfl (by decide) rfl (fun ls hl => ?_)
          refine lv_goto (tgt := 19) hx hb dX9_readExpr_70 (by decide) ?_
          exact ih_19 z_14.1 u0 u1 u2 (u3 + 1) h _ _ _ hP hD hS (lv_sub hl [2, 3, 4, 0] rfl)
  have h := hf
  unfold cb_X9_readExpr at h
  refine lv_aload_n hx hb dX9_readExpr_0 rfl (lv_at hl 0 rfl) ?_
  replace h := ob h; obtain ⟨v_16, hv_16, h⟩ := h
  refine fg_X9_26 hx hb hts hown hK hP hv_16 dX9_readExpr_1 ?_
  replace h := ob h; obtain ⟨i_17, hi_17, h⟩ := h
  subst hi_17
  replace h := ob h; obtain ⟨v_18, hv_18, h⟩ := h
  refine fg_X9_296 hx hb hts hown hK hP hv_18 dX9_readExpr_4 ?_
  refine lv_istore_n (lv' := [(1, .int v_18), (0, .ref (b + x0))]) hx hb dX9_readExpr_7 rfl hl (by decide) rfl (fun ls hl => ?_)
  refine lv_aload_n hx hb dX9_readExpr_8 rfl (lv_at hl 1 rfl) ?_
  replace h := ob h; obtain ⟨w_20, hw_20, h⟩ := h
  replace h := ob h; obtain ⟨v_19, hv_19, h⟩ := h
  refine ccI (As := []) hx hb hml hts hown hK hP hD hS hA hZ (X := 10) (by decide) rfl (ckE_some hw_20) (sc_X9_here l dC dI cB cI cJ cZ cS cO b K V fz F cs x0 v_19 hv_19) (cw_X9_X9_here hts (fr := 0) (by show 0 + 1 ≤ n + 1 + 3; omega) (by show 8 + (1 + 11) + 60 * (0) ≤ 60 * (n + 1 + 3); omega)) rfl hl.1 (Nat.le_of_ble_eq_true rfl) ⟨Nat.zero_le _, Nat.zero_le _⟩ dX9_readExpr_9 (fun H locs hP hD hS => ?_)
  refine lv_istore_n (lv' := [(2, .int v_19), (1, .int v_18), (0, .ref (b + x0))]) hx hb dX9_readExpr_12 rfl hl (by decide) rfl (fun ls hl => ?_)
  refine lv_aload_n hx hb dX9_readExpr_13 rfl (lv_at hl 2 rfl) ?_
  replace h := ob h; obtain ⟨w_22, hw_22, h⟩ := h
  replace h := ob h; obtain ⟨cs_21, hv_21, h⟩ := h
  refine ccV (As := []) hx hb hml hts hown hK hP hD hS hA hZ (X := 10) (by decide) rfl (ckE_some hw_22) (hT_X9_readConjunction cs x0 cs_21 hv_21) (cw_X9_X9_readConjunction hts (fr := n + 3) (by show n + 3 + 1 ≤ n + 1 + 3; omega) (by show 8 + (5 + 11) + 60 * (n + 3) ≤ 60 * (n + 1 + 3); omega)) rfl hl.1 (Nat.le_of_ble_eq_true rfl) ⟨Nat.zero_le _, Nat.zero_le _⟩ dX9_readExpr_14 (fun H locs hP hD hS => ?_)
  refine lv_iconst (v := 0) hx hb dX9_readExpr_17 (by decide) ?_
  refine lv_istore_n (lv' := [(3, .int 0), (2, .int v_19), (1, .int v_18), (0, .ref (b + x0))]) hx hb dX9_readExpr_18 rfl hl (by decide) rfl (fun ls hl => ?_)
  exact L_19 F cs_21 x0 v_18 v_19 0 h _ _ _ hP hD hS (lv_sub hl [3, 2, 1, 0] rfl)
set_option maxHeartbeats 4000000 in
set_option maxRecDepth 100000 in
theorem sbc_X9_readConjunction (l : Launch) (dC : Nat → ClassId) (dI : Nat → Nat → Nat) (cB cI cJ cZ cS cO : ClassId) (b : Nat) (K V : Nat → Nat) (fz : Value) (F : Nat) (n : Nat) (T : TC_X9_readExpr) (hT_X9_readExpr : ∀ (cs : CS) (x0 : Nat) (cs9 : CS) (r9 : Int32), T.1 cs x0 = some (cs9, r9) → ocI l dC dI cB cI cJ cZ cS cO b K V fz yX9_readExpr (wsOf yX9_readExpr cX9_readExpr 5 (some .int)) (n + 3) [.ref (b + x0)] cs cs9 r9) (hT_X9_readConjunction : ∀ (cs : CS) (x0 : Nat) (cs9 : CS), T.2.1 cs x0 = some cs9 → ocV l dC dI cB cI cJ cZ cS cO b K V fz yX9_readConjunction (wsOf yX9_readConjunction cX9_readConjunction 5 none) (n + 3) [.ref (b + x0)] cs cs9) (hT_X9_readNegation : ∀ (cs : CS) (x0 : Nat) (cs9 : CS), T.2.2.1 cs x0 = some cs9 → ocV l dC dI cB cI cJ cZ cS cO b K V fz yX9_readNegation (wsOf yX9_readNegation cX9_readNegation 3 none) (n + 3) [.ref (b + x0)] cs cs9) (hT_X9_readTest : ∀ (cs : CS) (x0 : Nat) (cs9 : CS), T.2.2.2.1 cs x0 = some cs9 → ocV l dC dI cB cI cJ cZ cS cO b K V fz yX9_readTest (wsOf yX9_readTest cX9_readTest 6 none) (n + 3) [.ref (b + x0)] cs cs9) (hT_X9_readSum : ∀ (cs : CS) (x0 : Nat) (cs9 : CS), T.2.2.2.2.1 cs x0 = some cs9 → ocV l dC dI cB cI cJ cZ cS cO b K V fz yX9_readSum (wsOf yX9_readSum cX9_readSum 6 none) (n + 3) [.ref (b + x0)] cs cs9) (hT_X9_readPart : ∀ (cs : CS) (x0 : Nat) (cs9 : CS), T.2.2.2.2.2.1 cs x0 = some cs9 → ocV l dC dI cB cI cJ cZ cS cO b K V fz yX9_readPart (wsOf yX9_readPart cX9_readPart 6 none) (n + 3) [.ref (b + x0)] cs cs9) (hT_X9_readSign : ∀ (cs : CS) (x0 : Nat) (cs9 : CS), T.2.2.2.2.2.2.1 cs x0 = some cs9 → ocV l dC dI cB cI cJ cZ cS cO b K V fz yX9_readSign (wsOf yX9_readSign cX9_readSign 3 none) (n + 3) [.ref (b + x0)] cs cs9) (hT_X9_readOne : ∀ (cs : CS) (x0 : Nat) (cs9 : CS), T.2.2.2.2.2.2.2.1 cs x0 = some cs9 → ocV l dC dI cB cI cJ cZ cS cO b K V fz yX9_readOne (wsOf yX9_readOne cX9_readOne 1 none) (n + 3) [.ref (b + x0)] cs cs9) (hT_X9_readCase : ∀ (cs : CS) (x0 : Nat) (cs9 : CS), T.2.2.2.2.2.2.2.2.1 cs x0 = some cs9 → ocV l dC dI cB cI cJ cZ cS cO b K V fz yX9_readCase (wsOf yX9_readCase cX9_readCase 3 none) (n + 3) [.ref (b + x0)] cs cs9) (hT_X9_readSpan : ∀ (cs : CS) (x0 : Nat) (cs9 : CS), T.2.2.2.2.2.2.2.2.2.1 cs x0 = some cs9 → ocV l dC dI cB cI cJ cZ cS cO b K V fz yX9_readSpan (wsOf yX9_readSpan cX9_readSpan 3 none) (n + 3) [.ref (b + x0)] cs cs9) (hT_X9_readAggregate : ∀ (cs : CS) (x0 : Nat) (cs9 : CS), T.2.2.2.2.2.2.2.2.2.2.1 cs x0 = some cs9 → ocV l dC dI cB cI cJ cZ cS cO b K V fz yX9_readAggregate (wsOf yX9_readAggregate cX9_readAggregate 7 none) (n + 3) [.ref (b + x0)] cs cs9) (hT_X9_readList : ∀ (cs : CS) (x0 : Nat) (x1 : Int32) (x2 : Int32) (x3 : Int32) (x4 : Int32) (cs9 : CS), T.2.2.2.2.2.2.2.2.2.2.2 cs x0 x1 x2 x3 x4 = some cs9 → ocV l dC dI cB cI cJ cZ cS cO b K V fz yX9_readList (wsOf yX9_readList cX9_readList 8 none) (n + 3) [.ref (b + x0), .int x1, .int x2, .int x3, .int x4] cs cs9) (cs : CS) (x0 : Nat) (cs9 : CS) (hf : cb_X9_readConjunction F T cs x0 = some cs9) : ocV l dC dI cB cI cJ cZ cS cO b K V fz yX9_readConjunction (wsOf yX9_readConjunction cX9_readConjunction 5 none) (n + 1 + 3) [.ref (b + x0)] cs cs9 := by
  intro sz
  refine Met.ofW (cc := cX9_readConjunction) (maxL := 5) (ret := none) (by decide) rfl ?_
  intro p e s m args below meth c s₁ B hml hv
  obtain ⟨rfl, hsz, hP, hK, hD0, hZ⟩ := hv
  have hx := B.exec
  have hb := B.bytes
  have hr := B.returns
  have hts := atoms_spec (ws := (wsOf yX9_readConjunction cX9_readConjunction 5 none)) B.pre
  have hown : s.vm.findClass RX9 = some m.cls := findClass_of_methodNamed B.named
  have hlocks := B.notSynchronized
  subst hsz
  have hD := hD0.self (sz := s.heap.size)
  generalize hAe : va_A (cW cB cI cJ cZ cS cO b cs) s.heap.size = A at hD hZ ⊢
  have hA : ∀ q : Nat, s.heap.size ≤ q → A q := fun q h => by rw [← hAe]; exact Or.inr h
  have hS : va_S A s.heap s.heap [] := va_S.rf
  have hl := lv_entry ([.ref (b + x0)]) (n := 5) (Nat.le_of_ble_eq_true rfl)
  rw [lg_entry_eq]
  generalize (lg_sl ([.ref (b + x0)]) ++ List.replicate (5 - (lg_sl ([.ref (b + x0)])).length) Slot.unset).toArray = ls at hl ⊢
  have hl : lv_has ls 5 [(0, .ref (b + x0))] := hl
  have B_73 : ∀ (cs1 : CS) , c_X9_readConjunction_b73 F T cs1 = some cs9 → ∀ (H : Heap) (locs : List Loc) (ls : Array Slot), va_P (dC, dI) vwCl (cW cB cI cJ cZ cS cO b cs1) H → va_D A (cW cB cI cJ cZ cS cO b cs1) → va_S A s.heap H locs → lv_has ls 5 [] → W p l e (headSpec (wsOf yX9_readConjunction cX9_readConjunction 5 none) ({ frames := n + 1 + 3, cells := 0, slots := 0, locals := 60 * (n + 1 + 3) } : Room)).room s m ([.ref (b + x0)] : List Value).toArray below meth c H locs 0 0 (MQ below (va_Qv (fun (_ : Unit) => True) (fun _ t_ => va_P (dC, dI) vwCl (cW cB cI cJ cZ cS cO b cs9) t_.heap ∧ va_D A (cW cB cI cJ cZ cS cO b cs9)) A) ([.ref (b + x0)] : List Value).toArray s 0 0 A) (F0 m 73 ls []) := by
    intro cs1  h H locs ls hP hD hS hl
    unfold c_X9_readConjunction_b73 at h
    have e1 := Option.some.inj h
    rw [e1] at hP hD
    exact W.vret hx hb hr (fun t_ ht hW => ⟨⟨(), rfl, trivial, by rw [ht]; exact hP, hD⟩, hS.F ht⟩) hS.2.2 dX9_readConjunction_73
  have L_19 : ∀ (lf_19 : Nat), ∀ (cs1 : CS) (u0 : Nat) (u1 : Int32) (u2 : Int32) (u3 : Int32), c_X9_readConjunction_L19 F T lf_19 cs1 u0 u1 u2 u3 = some cs9 → ∀ (H : Heap) (locs : List Loc) (ls : Array Slot), va_P (dC, dI) vwCl (cW cB cI cJ cZ cS cO b cs1) H → va_D A (cW cB cI cJ cZ cS cO b cs1) → va_S A s.heap H locs → lv_has ls 5 [(0, .ref (b + u0)), (1, .int u1), (2, .int u2), (3, .int u3)] → W p l e (headSpec (wsOf yX9_readConjunction cX9_readConjunction 5 none) ({ frames := n + 1 + 3, cells := 0, slots := 0, locals := 60 * (n + 1 + 3) } : Room)).room s m ([.ref (b + x0)] : List Value).toArray below meth c H locs 0 0 (MQ below (va_Qv (fun (_ : Unit) => True) (fun _ t_ => va_P (dC, dI) vwCl (cW cB cI cJ cZ cS cO b cs9) t_.heap ∧ va_D A (cW cB cI cJ cZ cS cO b cs9)) A) ([.ref (b + x0)] : List Value).toArray s 0 0 A) (F0 m 19 ls []) := by
    intro lf_19
    induction lf_19 with
    | zero => intro cs1 u0 u1 u2 u3 h; cases (show (none : Option CS) = _ from h)
    | succ lf_19 ih_19 =>
      intro cs1 u0 u1 u2 u3 h H locs ls hP hD hS hl
      rw [c_X9_readConjunction_L19] at h
      refine lv_iload_n hx hb dX9_readConjunction_19 rfl (lv_at hl 3 rfl) ?_
      refine lv_sipush (v := 2000) hx hb dX9_readConjunction_20 (by decide) ?_
      refine lv_icmp_ge (tgt := 73) hx hb dX9_readConjunction_23 (by decide) (fun c_1 => ?_) (fun c_1 => ?_)
      · skip
        replace h := (if_pos c_1).symm.trans h
        exact B_73 cs1 h _ _ _ hP hD hS (lv_sub hl [] rfl)
      · skip
        replace h := (if_neg c_1).symm.trans h
        refine lv_aload_n hx hb dX9_readConjunction_26 rfl (lv_at hl 0 rfl) ?_
        replace h := ob h; obtain ⟨w_3, hw_3, h⟩ := h
        replace h := ob h; obtain ⟨v_2, hv_2, h⟩ := h
        refine ccI (As := []) hx hb hml hts hown hK hP hD hS hA hZ (X := 10) (by decide) rfl (ckE_some hw_3) (sc_X9_kind l dC dI cB cI cJ cZ cS cO b K V fz F cs1 u0 v_2 hv_2) (cw_X9_X9_kind hts (fr := 0) (by show 0 + 1 ≤ n + 1 + 3; omega) (by show 8 + (1 + 11) + 60 * (0) ≤ 60 * (n + 1 + 3); omega)) rfl hl.1 (Nat.le_of_ble_eq_true rfl) ⟨Nat.zero_le _, Nat.zero_le _⟩ dX9_readConjunction_27 (fun H locs hP hD hS => ?_)
        refine lv_bipush (v := 28) hx hb dX9_readConjunction_30 (by decide) ?_
        refine lv_icmp_ne (tgt := 73) hx hb dX9_readConjunction_32 (by decide) (fun c_4 => ?_) (fun c_4 => ?_)
        · skip
          replace h := (if_neg c_4).symm.trans h
          exact B_73 cs1 h _ _ _ hP hD hS (lv_sub hl [] rfl)
        · skip
          replace h := (if_pos c_4).symm.trans h
          refine lv_aload_n hx hb dX9_readConjunction_35 rfl (lv_at hl 0 rfl) ?_
          replace h := ob h; obtain ⟨w_6, hw_6, h⟩ := h
          replace h := ob h; obtain ⟨v_5, hv_5, h⟩ := h
          refine ccI (As := []) hx hb hml hts hown hK hP hD hS hA hZ (X := 10) (by decide) rfl (ckE_some hw_6) (sc_X9_here l dC dI cB cI cJ cZ cS cO b K V fz F cs1 u0 v_5 hv_5) (cw_X9_X9_here hts (fr := 0) (by show 0 + 1 ≤ n + 1 + 3; omega) (by show 8 + (1 + 11) + 60 * (0) ≤ 60 * (n + 1 + 3); omega)) rfl hl.1 (Nat.le_of_ble_eq_true rfl) ⟨Nat.zero_le _, Nat.zero_le _⟩ dX9_readConjunction_36 (fun H locs hP hD hS => ?_)
          refine lv_istore (lv' := [(4, .int v_5), (0, .ref (b + u0)), (1, .int u1), (2, .int u2), (3, .int u3)]) hx hb dX9_readConjunction_39 hl (by decide) rfl (fun ls hl => ?_)
          refine lv_aload_n hx hb dX9_readConjunction_41 rfl (lv_at hl 1 rfl) ?_
          refine lv_dup hx hb dX9_readConjunction_42 rfl ?_
          replace h := ob h; obtain ⟨v_7, hv_7, h⟩ := h
          refine fg_X9_99 hx hb hts hown hK hP hv_7 dX9_readConjunction_43 ?_
          refine lv_iconst (v := 1) hx hb dX9_readConjunction_46 (by decide) ?_
          refine lv_iadd hx hb dX9_readConjunction_47 ?_
          replace h := ob h; obtain ⟨cs_8, hv_8, h⟩ := h
          refine fp_X9_99 hx hb hts hown hK hP hD hS hv_8 dX9_readConjunction_48 (fun H locs hP hD hS => ?_)
          refine lv_aload_n hx hb dX9_readConjunction_51 rfl (lv_at hl 1 rfl) ?_
          replace h := ob h; obtain ⟨w_10, hw_10, h⟩ := h
          replace h := ob h; obtain ⟨cs_9, hv_9, h⟩ := h
          refine ccV (As := []) hx hb hml hts hown hK hP hD hS hA hZ (X := 10) (by decide) rfl (ckE_some hw_10) (hT_X9_readNegation cs_8 u0 cs_9 hv_9) (cw_X9_X9_readNegation hts (fr := n + 3) (by show n + 3 + 1 ≤ n + 1 + 3; omega) (by show 8 + (3 + 11) + 60 * (n + 3) ≤ 60 * (n + 1 + 3); omega)) rfl hl.1 (Nat.le_of_ble_eq_true rfl) ⟨Nat.zero_le _, Nat.zero_le _⟩ dX9_readConjunction_52 (fun H locs hP hD hS => ?_)
          refine lv_aload_n hx hb dX9_readConjunction_55 rfl (lv_at hl 1 rfl) ?_
          refine lv_bipush (v := 28) hx hb dX9_readConjunction_56 (by decide) ?_
          refine lv_iload_n hx hb dX9_readConjunction_58 rfl (lv_at hl 2 rfl) ?_
          refine lv_iload_n hx hb dX9_readConjunction_59 rfl (lv_at hl 3 rfl) ?_
          refine lv_iload hx hb dX9_readConjunction_60 (lv_at hl 0 rfl) ?_
          refine lv_iconst (v := 2) hx hb dX9_readConjunction_62 (by decide) ?_
          replace h := ob h; obtain ⟨w_12, hw_12, h⟩ := h
          replace h := ob h; obtain ⟨z_11, hv_11, h⟩ := h
          refine ccI (As := [.int 28, .int u1, .int u2, .int v_5, .int 2]) hx hb hml hts hown hK hP hD hS hA hZ (X := 10) (by decide) rfl (ckE_some hw_12) (sc_X9_complete l dC dI cB cI cJ cZ cS cO b K V fz F cs_9 u0 28 u1 u2 v_5 2 z_11.1 z_11.2 hv_11) (cw_X9_X9_complete hts (fr := 1) (by show 1 + 1 ≤ n + 1 + 3; omega) (by show 8 + (6 + 11) + 60 * (1) ≤ 60 * (n + 1 + 3); omega)) rfl hl.1 (Nat.le_of_ble_eq_true rfl) ⟨Nat.zero_le _, Nat.zero_le _⟩ dX9_readConjunction_63 (fun H locs hP hD hS => ?_)
          refine lv_pop hx hb dX9_readConjunction_66 rfl ?_
          refine lv_iinc (v := u3 + 1) (lv' := [(3, .int (u3 + 1)), (4, .int v_5), (0, .ref (b + u0)), (1, .int u1), (2, .int u2)]) hx hb dX9_readConjunction_67 hl (k := 4) rfl rfl (by decide) rfl (fun ls hl => ?_)
          refine lv_goto (tgt := 19) hx hb dX9_readConjunction_70 (by decide) ?_
          exact ih_19 z_11.1 u0 u1 u2 (u3 + 1) h _ _ _ hP hD hS (lv_sub hl [2, 3, 4, 0] rfl)
  have h := hf
  unfold cb_X9_readConjunction at h
  refine lv_aload_n hx hb dX9_readConjunction_0 rfl (lv_at hl 0 rfl) ?_
  replace h := ob h; obtain ⟨v_13, hv_13, h⟩ := h
  refine fg_X9_26 hx hb hts hown hK hP hv_13 dX9_readConjunction_1 ?_
  replace h := ob h; obtain ⟨i_14, hi_14, h⟩ := h
  subst hi_14
  replace h := ob h; obtain ⟨v_15, hv_15, h⟩ := h
  refine fg_X9_296 hx hb hts hown hK hP hv_15 dX9_readConjunction_4 ?_
  refine lv_istore_n (lv' := [(1, .int v_15), (0, .ref (b + x0))]) hx hb dX9_readConjunction_7 rfl hl (by decide) rfl (fun ls hl => ?_)
  refine lv_aload_n hx hb dX9_readConjunction_8 rfl (lv_at hl 1 rfl) ?_
  replace h := ob h; obtain ⟨w_17, hw_17, h⟩ := h
  replace h := ob h; obtain ⟨v_16, hv_16, h⟩ := h
  refine ccI (As := []) hx hb hml hts hown hK hP hD hS hA hZ (X := 10) (by decide) rfl (ckE_some hw_17) (sc_X9_here l dC dI cB cI cJ cZ cS cO b K V fz F cs x0 v_16 hv_16) (cw_X9_X9_here hts (fr := 0) (by show 0 + 1 ≤ n + 1 + 3; omega) (by show 8 + (1 + 11) + 60 * (0) ≤ 60 * (n + 1 + 3); omega)) rfl hl.1 (Nat.le_of_ble_eq_true rfl) ⟨Nat.zero_le _, Nat.zero_le _⟩ dX9_readConjunction_9 (fun H locs hP hD hS => ?_)
  refine lv_istore_n (lv' := [(2, .int v_16), (1, .int v_15), (0, .ref (b + x0))]) hx hb dX9_readConjunction_12 rfl hl (by decide) rfl (fun ls hl => ?_)
  refine lv_aload_n hx hb dX9_readConjunction_13 rfl (lv_at hl 2 rfl) ?_
  replace h := ob h; obtain ⟨w_19, hw_19, h⟩ := h
  replace h := ob h; obtain ⟨cs_18, hv_18, h⟩ := h
  refine ccV (As := []) hx hb hml hts hown hK hP hD hS hA hZ (X := 10) (by decide) rfl (ckE_some hw_19) (hT_X9_readNegation cs x0 cs_18 hv_18) (cw_X9_X9_readNegation hts (fr := n + 3) (by show n + 3 + 1 ≤ n + 1 + 3; omega) (by show 8 + (3 + 11) + 60 * (n + 3) ≤ 60 * (n + 1 + 3); omega)) rfl hl.1 (Nat.le_of_ble_eq_true rfl) ⟨Nat.zero_le _, Nat.zero_le _⟩ dX9_readConjunction_14 (fun H locs hP hD hS => ?_)
  refine lv_iconst (v := 0) hx hb dX9_readConjunction_17 (by decide) ?_
  refine lv_istore_n (lv' := [(3, .int 0), (2, .int v_16), (1, .int v_15), (0, .ref (b + x0))]) hx hb dX9_readConjunction_18 rfl hl (by decide) rfl (fun ls hl => ?_)
  exact L_19 F cs_18 x0 v_15 v_16 0 h _ _ _ hP hD hS (lv_sub hl [3, 2, 1, 0] rfl)
set_option maxHeartbeats 4000000 in
set_option maxRecDepth 100000 in
theorem sbc_X9_readNegation (l : Launch) (dC : Nat → ClassId) (dI : Nat → Nat → Nat) (cB cI cJ cZ cS cO : ClassId) (b : Nat) (K V : Nat → Nat) (fz : Value) (F : Nat) (n : Nat) (T : TC_X9_readExpr) (hT_X9_readExpr : ∀ (cs : CS) (x0 : Nat) (cs9 : CS) (r9 : Int32), T.1 cs x0 = some (cs9, r9) → ocI l dC dI cB cI cJ cZ cS cO b K V fz yX9_readExpr (wsOf yX9_readExpr cX9_readExpr 5 (some .int)) (n + 3) [.ref (b + x0)] cs cs9 r9) (hT_X9_readConjunction : ∀ (cs : CS) (x0 : Nat) (cs9 : CS), T.2.1 cs x0 = some cs9 → ocV l dC dI cB cI cJ cZ cS cO b K V fz yX9_readConjunction (wsOf yX9_readConjunction cX9_readConjunction 5 none) (n + 3) [.ref (b + x0)] cs cs9) (hT_X9_readNegation : ∀ (cs : CS) (x0 : Nat) (cs9 : CS), T.2.2.1 cs x0 = some cs9 → ocV l dC dI cB cI cJ cZ cS cO b K V fz yX9_readNegation (wsOf yX9_readNegation cX9_readNegation 3 none) (n + 3) [.ref (b + x0)] cs cs9) (hT_X9_readTest : ∀ (cs : CS) (x0 : Nat) (cs9 : CS), T.2.2.2.1 cs x0 = some cs9 → ocV l dC dI cB cI cJ cZ cS cO b K V fz yX9_readTest (wsOf yX9_readTest cX9_readTest 6 none) (n + 3) [.ref (b + x0)] cs cs9) (hT_X9_readSum : ∀ (cs : CS) (x0 : Nat) (cs9 : CS), T.2.2.2.2.1 cs x0 = some cs9 → ocV l dC dI cB cI cJ cZ cS cO b K V fz yX9_readSum (wsOf yX9_readSum cX9_readSum 6 none) (n + 3) [.ref (b + x0)] cs cs9) (hT_X9_readPart : ∀ (cs : CS) (x0 : Nat) (cs9 : CS), T.2.2.2.2.2.1 cs x0 = some cs9 → ocV l dC dI cB cI cJ cZ cS cO b K V fz yX9_readPart (wsOf yX9_readPart cX9_readPart 6 none) (n + 3) [.ref (b + x0)] cs cs9) (hT_X9_readSign : ∀ (cs : CS) (x0 : Nat) (cs9 : CS), T.2.2.2.2.2.2.1 cs x0 = some cs9 → ocV l dC dI cB cI cJ cZ cS cO b K V fz yX9_readSign (wsOf yX9_readSign cX9_readSign 3 none) (n + 3) [.ref (b + x0)] cs cs9) (hT_X9_readOne : ∀ (cs : CS) (x0 : Nat) (cs9 : CS), T.2.2.2.2.2.2.2.1 cs x0 = some cs9 → ocV l dC dI cB cI cJ cZ cS cO b K V fz yX9_readOne (wsOf yX9_readOne cX9_readOne 1 none) (n + 3) [.ref (b + x0)] cs cs9) (hT_X9_readCase : ∀ (cs : CS) (x0 : Nat) (cs9 : CS), T.2.2.2.2.2.2.2.2.1 cs x0 = some cs9 → ocV l dC dI cB cI cJ cZ cS cO b K V fz yX9_readCase (wsOf yX9_readCase cX9_readCase 3 none) (n + 3) [.ref (b + x0)] cs cs9) (hT_X9_readSpan : ∀ (cs : CS) (x0 : Nat) (cs9 : CS), T.2.2.2.2.2.2.2.2.2.1 cs x0 = some cs9 → ocV l dC dI cB cI cJ cZ cS cO b K V fz yX9_readSpan (wsOf yX9_readSpan cX9_readSpan 3 none) (n + 3) [.ref (b + x0)] cs cs9) (hT_X9_readAggregate : ∀ (cs : CS) (x0 : Nat) (cs9 : CS), T.2.2.2.2.2.2.2.2.2.2.1 cs x0 = some cs9 → ocV l dC dI cB cI cJ cZ cS cO b K V fz yX9_readAggregate (wsOf yX9_readAggregate cX9_readAggregate 7 none) (n + 3) [.ref (b + x0)] cs cs9) (hT_X9_readList : ∀ (cs : CS) (x0 : Nat) (x1 : Int32) (x2 : Int32) (x3 : Int32) (x4 : Int32) (cs9 : CS), T.2.2.2.2.2.2.2.2.2.2.2 cs x0 x1 x2 x3 x4 = some cs9 → ocV l dC dI cB cI cJ cZ cS cO b K V fz yX9_readList (wsOf yX9_readList cX9_readList 8 none) (n + 3) [.ref (b + x0), .int x1, .int x2, .int x3, .int x4] cs cs9) (cs : CS) (x0 : Nat) (cs9 : CS) (hf : cb_X9_readNegation F T cs x0 = some cs9) : ocV l dC dI cB cI cJ cZ cS cO b K V fz yX9_readNegation (wsOf yX9_readNegation cX9_readNegation 3 none) (n + 1 + 3) [.ref (b + x0)] cs cs9 := by
  intro sz
  refine Met.ofW (cc := cX9_readNegation) (maxL := 3) (ret := none) (by decide) rfl ?_
  intro p e s m args below meth c s₁ B hml hv
  obtain ⟨rfl, hsz, hP, hK, hD0, hZ⟩ := hv
  have hx := B.exec
  have hb := B.bytes
  have hr := B.returns
  have hts := atoms_spec (ws := (wsOf yX9_readNegation cX9_readNegation 3 none)) B.pre
  have hown : s.vm.findClass RX9 = some m.cls := findClass_of_methodNamed B.named
  have hlocks := B.notSynchronized
  subst hsz
  have hD := hD0.self (sz := s.heap.size)
  generalize hAe : va_A (cW cB cI cJ cZ cS cO b cs) s.heap.size = A at hD hZ ⊢
  have hA : ∀ q : Nat, s.heap.size ≤ q → A q := fun q h => by rw [← hAe]; exact Or.inr h
  have hS : va_S A s.heap s.heap [] := va_S.rf
  have hl := lv_entry ([.ref (b + x0)]) (n := 3) (Nat.le_of_ble_eq_true rfl)
  rw [lg_entry_eq]
  generalize (lg_sl ([.ref (b + x0)]) ++ List.replicate (3 - (lg_sl ([.ref (b + x0)])).length) Slot.unset).toArray = ls at hl ⊢
  have hl : lv_has ls 3 [(0, .ref (b + x0))] := hl
  have B_49 : ∀ (cs1 : CS) (u0 : Nat) (u1 : Int32) (u2 : Int32), c_X9_readNegation_b49 F T cs1 u0 u1 u2 = some cs9 → ∀ (H : Heap) (locs : List Loc) (ls : Array Slot), va_P (dC, dI) vwCl (cW cB cI cJ cZ cS cO b cs1) H → va_D A (cW cB cI cJ cZ cS cO b cs1) → va_S A s.heap H locs → lv_has ls 3 [(0, .ref (b + u0)), (1, .int u1), (2, .int u2)] → W p l e (headSpec (wsOf yX9_readNegation cX9_readNegation 3 none) ({ frames := n + 1 + 3, cells := 0, slots := 0, locals := 60 * (n + 1 + 3) } : Room)).room s m ([.ref (b + x0)] : List Value).toArray below meth c H locs 0 0 (MQ below (va_Qv (fun (_ : Unit) => True) (fun _ t_ => va_P (dC, dI) vwCl (cW cB cI cJ cZ cS cO b cs9) t_.heap ∧ va_D A (cW cB cI cJ cZ cS cO b cs9)) A) ([.ref (b + x0)] : List Value).toArray s 0 0 A) (F0 m 49 ls []) := by
    intro cs1 u0 u1 u2 h H locs ls hP hD hS hl
    unfold c_X9_readNegation_b49 at h
    refine lv_aload_n hx hb dX9_readNegation_49 rfl (lv_at hl 0 rfl) ?_
    refine lv_dup hx hb dX9_readNegation_50 rfl ?_
    replace h := ob h; obtain ⟨v_1, hv_1, h⟩ := h
    refine fg_X9_275 hx hb hts hown hK hP hv_1 dX9_readNegation_51 ?_
    refine lv_iconst (v := 1) hx hb dX9_readNegation_54 (by decide) ?_
    refine lv_isub hx hb dX9_readNegation_55 ?_
    replace h := ob h; obtain ⟨cs_2, hv_2, h⟩ := h
    refine fp_X9_275 hx hb hts hown hK hP hD hS hv_2 dX9_readNegation_56 (fun H locs hP hD hS => ?_)
    refine lv_aload_n hx hb dX9_readNegation_59 rfl (lv_at hl 0 rfl) ?_
    refine lv_bipush (v := 25) hx hb dX9_readNegation_60 (by decide) ?_
    refine lv_iload_n hx hb dX9_readNegation_62 rfl (lv_at hl 1 rfl) ?_
    refine lv_iload_n hx hb dX9_readNegation_63 rfl (lv_at hl 2 rfl) ?_
    refine lv_iload_n hx hb dX9_readNegation_64 rfl (lv_at hl 2 rfl) ?_
    refine lv_iconst (v := 1) hx hb dX9_readNegation_65 (by decide) ?_
    replace h := ob h; obtain ⟨w_4, hw_4, h⟩ := h
    replace h := ob h; obtain ⟨z_3, hv_3, h⟩ := h
    refine ccI (As := [.int 25, .int u1, .int u2, .int u2, .int 1]) hx hb hml hts hown hK hP hD hS hA hZ (X := 10) (by decide) rfl (ckE_some hw_4) (sc_X9_complete l dC dI cB cI cJ cZ cS cO b K V fz F cs_2 u0 25 u1 u2 u2 1 z_3.1 z_3.2 hv_3) (cw_X9_X9_complete hts (fr := 1) (by show 1 + 1 ≤ n + 1 + 3; omega) (by show 8 + (6 + 11) + 60 * (1) ≤ 60 * (n + 1 + 3); omega)) rfl hl.1 (Nat.le_of_ble_eq_true rfl) ⟨Nat.zero_le _, Nat.zero_le _⟩ dX9_readNegation_66 (fun H locs hP hD hS => ?_)
    refine lv_pop hx hb dX9_readNegation_69 rfl ?_
    have e1 := Option.some.inj h
    rw [e1] at hP hD
    exact W.vret hx hb hr (fun t_ ht hW => ⟨⟨(), rfl, trivial, by rw [ht]; exact hP, hD⟩, hS.F ht⟩) hS.2.2 dX9_readNegation_70
  have h := hf
  unfold cb_X9_readNegation at h
  refine lv_aload_n hx hb dX9_readNegation_0 rfl (lv_at hl 0 rfl) ?_
  replace h := ob h; obtain ⟨w_6, hw_6, h⟩ := h
  replace h := ob h; obtain ⟨v_5, hv_5, h⟩ := h
  refine ccI (As := []) hx hb hml hts hown hK hP hD hS hA hZ (X := 10) (by decide) rfl (ckE_some hw_6) (sc_X9_kind l dC dI cB cI cJ cZ cS cO b K V fz F cs x0 v_5 hv_5) (cw_X9_X9_kind hts (fr := 0) (by show 0 + 1 ≤ n + 1 + 3; omega) (by show 8 + (1 + 11) + 60 * (0) ≤ 60 * (n + 1 + 3); omega)) rfl hl.1 (Nat.le_of_ble_eq_true rfl) ⟨Nat.zero_le _, Nat.zero_le _⟩ dX9_readNegation_1 (fun H locs hP hD hS => ?_)
  refine lv_bipush (v := 25) hx hb dX9_readNegation_4 (by decide) ?_
  refine lv_icmp_eq (tgt := 14) hx hb dX9_readNegation_6 (by decide) (fun c_7 => ?_) (fun c_7 => ?_)
  · skip
    replace h := (if_pos c_7).symm.trans h
    refine lv_aload_n hx hb dX9_readNegation_14 rfl (lv_at hl 0 rfl) ?_
    replace h := ob h; obtain ⟨v_8, hv_8, h⟩ := h
    refine fg_X9_26 hx hb hts hown hK hP hv_8 dX9_readNegation_15 ?_
    replace h := ob h; obtain ⟨i_9, hi_9, h⟩ := h
    subst hi_9
    replace h := ob h; obtain ⟨v_10, hv_10, h⟩ := h
    refine fg_X9_296 hx hb hts hown hK hP hv_10 dX9_readNegation_18 ?_
    refine lv_istore_n (lv' := [(1, .int v_10), (0, .ref (b + x0))]) hx hb dX9_readNegation_21 rfl hl (by decide) rfl (fun ls hl => ?_)
    refine lv_aload_n hx hb dX9_readNegation_22 rfl (lv_at hl 1 rfl) ?_
    replace h := ob h; obtain ⟨w_12, hw_12, h⟩ := h
    replace h := ob h; obtain ⟨v_11, hv_11, h⟩ := h
    refine ccI (As := []) hx hb hml hts hown hK hP hD hS hA hZ (X := 10) (by decide) rfl (ckE_some hw_12) (sc_X9_here l dC dI cB cI cJ cZ cS cO b K V fz F cs x0 v_11 hv_11) (cw_X9_X9_here hts (fr := 0) (by show 0 + 1 ≤ n + 1 + 3; omega) (by show 8 + (1 + 11) + 60 * (0) ≤ 60 * (n + 1 + 3); omega)) rfl hl.1 (Nat.le_of_ble_eq_true rfl) ⟨Nat.zero_le _, Nat.zero_le _⟩ dX9_readNegation_23 (fun H locs hP hD hS => ?_)
    refine lv_istore_n (lv' := [(2, .int v_11), (1, .int v_10), (0, .ref (b + x0))]) hx hb dX9_readNegation_26 rfl hl (by decide) rfl (fun ls hl => ?_)
    refine lv_aload_n hx hb dX9_readNegation_27 rfl (lv_at hl 2 rfl) ?_
    replace h := ob h; obtain ⟨w_14, hw_14, h⟩ := h
    replace h := ob h; obtain ⟨cs_13, hv_13, h⟩ := h
    refine ccV (As := []) hx hb hml hts hown hK hP hD hS hA hZ (X := 10) (by decide) rfl (ckE_some hw_14) (sc_X9_deepen l dC dI cB cI cJ cZ cS cO b K V fz F cs x0 cs_13 hv_13) (cw_X9_X9_deepen hts (fr := 1) (by show 1 + 1 ≤ n + 1 + 3; omega) (by show 8 + (1 + 11) + 60 * (1) ≤ 60 * (n + 1 + 3); omega)) rfl hl.1 (Nat.le_of_ble_eq_true rfl) ⟨Nat.zero_le _, Nat.zero_le _⟩ dX9_readNegation_28 (fun H locs hP hD hS => ?_)
    refine lv_aload_n hx hb dX9_readNegation_31 rfl (lv_at hl 2 rfl) ?_
    refine lv_bipush (v := 25) hx hb dX9_readNegation_32 (by decide) ?_
    replace h := ob h; obtain ⟨w_16, hw_16, h⟩ := h
    replace h := ob h; obtain ⟨z_15, hv_15, h⟩ := h
    refine ccI (As := [.int 25]) hx hb hml hts hown hK hP hD hS hA hZ (X := 10) (by decide) rfl (ckE_some hw_16) (sc_X9_accept l dC dI cB cI cJ cZ cS cO b K V fz F cs_13 x0 25 z_15.1 z_15.2 hv_15) (cw_X9_X9_accept hts (fr := 1) (by show 1 + 1 ≤ n + 1 + 3; omega) (by show 8 + (3 + 11) + 60 * (1) ≤ 60 * (n + 1 + 3); omega)) rfl hl.1 (Nat.le_of_ble_eq_true rfl) ⟨Nat.zero_le _, Nat.zero_le _⟩ dX9_readNegation_34 (fun H locs hP hD hS => ?_)
    refine lv_pop hx hb dX9_readNegation_37 rfl ?_
    refine lv_aload_n hx hb dX9_readNegation_38 rfl (lv_at hl 2 rfl) ?_
    replace h := ob h; obtain ⟨v_17, hv_17, h⟩ := h
    refine fg_X9_93 hx hb hts hown hK hP hv_17 dX9_readNegation_39 ?_
    refine lv_if_ne (tgt := 49) hx hb dX9_readNegation_42 (by decide) (fun c_18 => ?_) (fun c_18 => ?_)
    · skip
      replace h := (if_neg c_18).symm.trans h
      exact B_49 z_15.1 x0 v_10 v_11 h _ _ _ hP hD hS (lv_sub hl [2, 1, 0] rfl)
    · skip
      replace h := (if_pos c_18).symm.trans h
      refine lv_aload_n hx hb dX9_readNegation_45 rfl (lv_at hl 2 rfl) ?_
      replace h := ob h; obtain ⟨w_20, hw_20, h⟩ := h
      replace h := ob h; obtain ⟨cs_19, hv_19, h⟩ := h
      refine ccV (As := []) hx hb hml hts hown hK hP hD hS hA hZ (X := 10) (by decide) rfl (ckE_some hw_20) (hT_X9_readNegation z_15.1 x0 cs_19 hv_19) (cw_X9_X9_readNegation hts (fr := n + 3) (by show n + 3 + 1 ≤ n + 1 + 3; omega) (by show 8 + (3 + 11) + 60 * (n + 3) ≤ 60 * (n + 1 + 3); omega)) rfl hl.1 (Nat.le_of_ble_eq_true rfl) ⟨Nat.zero_le _, Nat.zero_le _⟩ dX9_readNegation_46 (fun H locs hP hD hS => ?_)
      exact B_49 cs_19 x0 v_10 v_11 h _ _ _ hP hD hS (lv_sub hl [2, 1, 0] rfl)
  · skip
    replace h := (if_neg c_7).symm.trans h
    refine lv_aload_n hx hb dX9_readNegation_9 rfl (lv_at hl 0 rfl) ?_
    replace h := ob h; obtain ⟨w_22, hw_22, h⟩ := h
    replace h := ob h; obtain ⟨cs_21, hv_21, h⟩ := h
    refine ccV (As := []) hx hb hml hts hown hK hP hD hS hA hZ (X := 10) (by decide) rfl (ckE_some hw_22) (hT_X9_readTest cs x0 cs_21 hv_21) (cw_X9_X9_readTest hts (fr := n + 3) (by show n + 3 + 1 ≤ n + 1 + 3; omega) (by show 8 + (6 + 11) + 60 * (n + 3) ≤ 60 * (n + 1 + 3); omega)) rfl hl.1 (Nat.le_of_ble_eq_true rfl) ⟨Nat.zero_le _, Nat.zero_le _⟩ dX9_readNegation_10 (fun H locs hP hD hS => ?_)
    have e1 := Option.some.inj h
    rw [e1] at hP hD
    exact W.vret hx hb hr (fun t_ ht hW => ⟨⟨(), rfl, trivial, by rw [ht]; exact hP, hD⟩, hS.F ht⟩) hS.2.2 dX9_readNegation_13
set_option maxHeartbeats 4000000 in
set_option maxRecDepth 100000 in
theorem sbc_X9_readTest (l : Launch) (dC : Nat → ClassId) (dI : Nat → Nat → Nat) (cB cI cJ cZ cS cO : ClassId) (b : Nat) (K V : Nat → Nat) (fz : Value) (F : Nat) (n : Nat) (T : TC_X9_readExpr) (hT_X9_readExpr : ∀ (cs : CS) (x0 : Nat) (cs9 : CS) (r9 : Int32), T.1 cs x0 = some (cs9, r9) → ocI l dC dI cB cI cJ cZ cS cO b K V fz yX9_readExpr (wsOf yX9_readExpr cX9_readExpr 5 (some .int)) (n + 3) [.ref (b + x0)] cs cs9 r9) (hT_X9_readConjunction : ∀ (cs : CS) (x0 : Nat) (cs9 : CS), T.2.1 cs x0 = some cs9 → ocV l dC dI cB cI cJ cZ cS cO b K V fz yX9_readConjunction (wsOf yX9_readConjunction cX9_readConjunction 5 none) (n + 3) [.ref (b + x0)] cs cs9) (hT_X9_readNegation : ∀ (cs : CS) (x0 : Nat) (cs9 : CS), T.2.2.1 cs x0 = some cs9 → ocV l dC dI cB cI cJ cZ cS cO b K V fz yX9_readNegation (wsOf yX9_readNegation cX9_readNegation 3 none) (n + 3) [.ref (b + x0)] cs cs9) (hT_X9_readTest : ∀ (cs : CS) (x0 : Nat) (cs9 : CS), T.2.2.2.1 cs x0 = some cs9 → ocV l dC dI cB cI cJ cZ cS cO b K V fz yX9_readTest (wsOf yX9_readTest cX9_readTest 6 none) (n + 3) [.ref (b + x0)] cs cs9) (hT_X9_readSum : ∀ (cs : CS) (x0 : Nat) (cs9 : CS), T.2.2.2.2.1 cs x0 = some cs9 → ocV l dC dI cB cI cJ cZ cS cO b K V fz yX9_readSum (wsOf yX9_readSum cX9_readSum 6 none) (n + 3) [.ref (b + x0)] cs cs9) (hT_X9_readPart : ∀ (cs : CS) (x0 : Nat) (cs9 : CS), T.2.2.2.2.2.1 cs x0 = some cs9 → ocV l dC dI cB cI cJ cZ cS cO b K V fz yX9_readPart (wsOf yX9_readPart cX9_readPart 6 none) (n + 3) [.ref (b + x0)] cs cs9) (hT_X9_readSign : ∀ (cs : CS) (x0 : Nat) (cs9 : CS), T.2.2.2.2.2.2.1 cs x0 = some cs9 → ocV l dC dI cB cI cJ cZ cS cO b K V fz yX9_readSign (wsOf yX9_readSign cX9_readSign 3 none) (n + 3) [.ref (b + x0)] cs cs9) (hT_X9_readOne : ∀ (cs : CS) (x0 : Nat) (cs9 : CS), T.2.2.2.2.2.2.2.1 cs x0 = some cs9 → ocV l dC dI cB cI cJ cZ cS cO b K V fz yX9_readOne (wsOf yX9_readOne cX9_readOne 1 none) (n + 3) [.ref (b + x0)] cs cs9) (hT_X9_readCase : ∀ (cs : CS) (x0 : Nat) (cs9 : CS), T.2.2.2.2.2.2.2.2.1 cs x0 = some cs9 → ocV l dC dI cB cI cJ cZ cS cO b K V fz yX9_readCase (wsOf yX9_readCase cX9_readCase 3 none) (n + 3) [.ref (b + x0)] cs cs9) (hT_X9_readSpan : ∀ (cs : CS) (x0 : Nat) (cs9 : CS), T.2.2.2.2.2.2.2.2.2.1 cs x0 = some cs9 → ocV l dC dI cB cI cJ cZ cS cO b K V fz yX9_readSpan (wsOf yX9_readSpan cX9_readSpan 3 none) (n + 3) [.ref (b + x0)] cs cs9) (hT_X9_readAggregate : ∀ (cs : CS) (x0 : Nat) (cs9 : CS), T.2.2.2.2.2.2.2.2.2.2.1 cs x0 = some cs9 → ocV l dC dI cB cI cJ cZ cS cO b K V fz yX9_readAggregate (wsOf yX9_readAggregate cX9_readAggregate 7 none) (n + 3) [.ref (b + x0)] cs cs9) (hT_X9_readList : ∀ (cs : CS) (x0 : Nat) (x1 : Int32) (x2 : Int32) (x3 : Int32) (x4 : Int32) (cs9 : CS), T.2.2.2.2.2.2.2.2.2.2.2 cs x0 x1 x2 x3 x4 = some cs9 → ocV l dC dI cB cI cJ cZ cS cO b K V fz yX9_readList (wsOf yX9_readList cX9_readList 8 none) (n + 3) [.ref (b + x0), .int x1, .int x2, .int x3, .int x4] cs cs9) (cs : CS) (x0 : Nat) (cs9 : CS) (hf : cb_X9_readTest F T cs x0 = some cs9) : ocV l dC dI cB cI cJ cZ cS cO b K V fz yX9_readTest (wsOf yX9_readTest cX9_readTest 6 none) (n + 1 + 3) [.ref (b + x0)] cs cs9 := by
  intro sz
  refine Met.ofW (cc := cX9_readTest) (maxL := 6) (ret := none) (by decide) rfl ?_
  intro p e s m args below meth c s₁ B hml hv
  obtain ⟨rfl, hsz, hP, hK, hD0, hZ⟩ := hv
  have hx := B.exec
  have hb := B.bytes
  have hr := B.returns
  have hts := atoms_spec (ws := (wsOf yX9_readTest cX9_readTest 6 none)) B.pre
  have hown : s.vm.findClass RX9 = some m.cls := findClass_of_methodNamed B.named
  have hlocks := B.notSynchronized
  subst hsz
  have hD := hD0.self (sz := s.heap.size)
  generalize hAe : va_A (cW cB cI cJ cZ cS cO b cs) s.heap.size = A at hD hZ ⊢
  have hA : ∀ q : Nat, s.heap.size ≤ q → A q := fun q h => by rw [← hAe]; exact Or.inr h
  have hS : va_S A s.heap s.heap [] := va_S.rf
  have hl := lv_entry ([.ref (b + x0)]) (n := 6) (Nat.le_of_ble_eq_true rfl)
  rw [lg_entry_eq]
  generalize (lg_sl ([.ref (b + x0)]) ++ List.replicate (6 - (lg_sl ([.ref (b + x0)])).length) Slot.unset).toArray = ls at hl ⊢
  have hl : lv_has ls 6 [(0, .ref (b + x0))] := hl
  have B_282 : ∀ (cs1 : CS) , c_X9_readTest_b282 F T cs1 = some cs9 → ∀ (H : Heap) (locs : List Loc) (ls : Array Slot), va_P (dC, dI) vwCl (cW cB cI cJ cZ cS cO b cs1) H → va_D A (cW cB cI cJ cZ cS cO b cs1) → va_S A s.heap H locs → lv_has ls 6 [] → W p l e (headSpec (wsOf yX9_readTest cX9_readTest 6 none) ({ frames := n + 1 + 3, cells := 0, slots := 0, locals := 60 * (n + 1 + 3) } : Room)).room s m ([.ref (b + x0)] : List Value).toArray below meth c H locs 0 0 (MQ below (va_Qv (fun (_ : Unit) => True) (fun _ t_ => va_P (dC, dI) vwCl (cW cB cI cJ cZ cS cO b cs9) t_.heap ∧ va_D A (cW cB cI cJ cZ cS cO b cs9)) A) ([.ref (b + x0)] : List Value).toArray s 0 0 A) (F0 m 282 ls []) := by
    intro cs1  h H locs ls hP hD hS hl
    unfold c_X9_readTest_b282 at h
    have e1 := Option.some.inj h
    rw [e1] at hP hD
    exact W.vret hx hb hr (fun t_ ht hW => ⟨⟨(), rfl, trivial, by rw [ht]; exact hP, hD⟩, hS.F ht⟩) hS.2.2 dX9_readTest_282
  have B_172 : ∀ (cs1 : CS) (u0 : Nat) (u1 : Int32) (u2 : Int32) (u3 : Int32) (u4 : Int32), c_X9_readTest_b172 F T cs1 u0 u1 u2 u3 u4 = some cs9 → ∀ (H : Heap) (locs : List Loc) (ls : Array Slot), va_P (dC, dI) vwCl (cW cB cI cJ cZ cS cO b cs1) H → va_D A (cW cB cI cJ cZ cS cO b cs1) → va_S A s.heap H locs → lv_has ls 6 [(0, .ref (b + u0)), (1, .int u1), (2, .int u2), (3, .int u3), (4, .int u4)] → W p l e (headSpec (wsOf yX9_readTest cX9_readTest 6 none) ({ frames := n + 1 + 3, cells := 0, slots := 0, locals := 60 * (n + 1 + 3) } : Room)).room s m ([.ref (b + x0)] : List Value).toArray below meth c H locs 0 0 (MQ below (va_Qv (fun (_ : Unit) => True) (fun _ t_ => va_P (dC, dI) vwCl (cW cB cI cJ cZ cS cO b cs9) t_.heap ∧ va_D A (cW cB cI cJ cZ cS cO b cs9)) A) ([.ref (b + x0)] : List Value).toArray s 0 0 A) (F0 m 172 ls []) := by
    intro cs1 u0 u1 u2 u3 u4 h H locs ls hP hD hS hl
    unfold c_X9_readTest_b172 at h
    refine lv_aload_n hx hb dX9_readTest_172 rfl (lv_at hl 0 rfl) ?_
    refine lv_dup hx hb dX9_readTest_173 rfl ?_
    replace h := ob h; obtain ⟨v_1, hv_1, h⟩ := h
    refine fg_X9_99 hx hb hts hown hK hP hv_1 dX9_readTest_174 ?_
    refine lv_iconst (v := 1) hx hb dX9_readTest_177 (by decide) ?_
    refine lv_iadd hx hb dX9_readTest_178 ?_
    replace h := ob h; obtain ⟨cs_2, hv_2, h⟩ := h
    refine fp_X9_99 hx hb hts hown hK hP hD hS hv_2 dX9_readTest_179 (fun H locs hP hD hS => ?_)
    refine lv_aload_n hx hb dX9_readTest_182 rfl (lv_at hl 0 rfl) ?_
    replace h := ob h; obtain ⟨w_4, hw_4, h⟩ := h
    replace h := ob h; obtain ⟨cs_3, hv_3, h⟩ := h
    refine ccV (As := []) hx hb hml hts hown hK hP hD hS hA hZ (X := 10) (by decide) rfl (ckE_some hw_4) (hT_X9_readSum cs_2 u0 cs_3 hv_3) (cw_X9_X9_readSum hts (fr := n + 3) (by show n + 3 + 1 ≤ n + 1 + 3; omega) (by show 8 + (6 + 11) + 60 * (n + 3) ≤ 60 * (n + 1 + 3); omega)) rfl hl.1 (Nat.le_of_ble_eq_true rfl) ⟨Nat.zero_le _, Nat.zero_le _⟩ dX9_readTest_183 (fun H locs hP hD hS => ?_)
    refine lv_aload_n hx hb dX9_readTest_186 rfl (lv_at hl 0 rfl) ?_
    refine lv_iload hx hb dX9_readTest_187 (lv_at hl 4 rfl) ?_
    refine lv_iload_n hx hb dX9_readTest_189 rfl (lv_at hl 1 rfl) ?_
    refine lv_iload_n hx hb dX9_readTest_190 rfl (lv_at hl 2 rfl) ?_
    refine lv_iload_n hx hb dX9_readTest_191 rfl (lv_at hl 3 rfl) ?_
    refine lv_iconst (v := 2) hx hb dX9_readTest_192 (by decide) ?_
    replace h := ob h; obtain ⟨w_6, hw_6, h⟩ := h
    replace h := ob h; obtain ⟨z_5, hv_5, h⟩ := h
    refine ccI (As := [.int u4, .int u1, .int u2, .int u3, .int 2]) hx hb hml hts hown hK hP hD hS hA hZ (X := 10) (by decide) rfl (ckE_some hw_6) (sc_X9_complete l dC dI cB cI cJ cZ cS cO b K V fz F cs_3 u0 u4 u1 u2 u3 2 z_5.1 z_5.2 hv_5) (cw_X9_X9_complete hts (fr := 1) (by show 1 + 1 ≤ n + 1 + 3; omega) (by show 8 + (6 + 11) + 60 * (1) ≤ 60 * (n + 1 + 3); omega)) rfl hl.1 (Nat.le_of_ble_eq_true rfl) ⟨Nat.zero_le _, Nat.zero_le _⟩ dX9_readTest_193 (fun H locs hP hD hS => ?_)
    refine lv_pop hx hb dX9_readTest_196 rfl ?_
    refine lv_goto (tgt := 282) hx hb dX9_readTest_197 (by decide) ?_
    exact B_282 z_5.1 h _ _ _ hP hD hS (lv_sub hl [] rfl)
  have B_226 : ∀ (cs1 : CS) (u0 : Nat) (u1 : Int32) (u2 : Int32) (u3 : Int32) (y0 : Int32), c_X9_readTest_b226 F T cs1 u0 u1 u2 u3 y0 = some cs9 → ∀ (H : Heap) (locs : List Loc) (ls : Array Slot), va_P (dC, dI) vwCl (cW cB cI cJ cZ cS cO b cs1) H → va_D A (cW cB cI cJ cZ cS cO b cs1) → va_S A s.heap H locs → lv_has ls 6 [(0, .ref (b + u0)), (1, .int u1), (2, .int u2), (3, .int u3)] → W p l e (headSpec (wsOf yX9_readTest cX9_readTest 6 none) ({ frames := n + 1 + 3, cells := 0, slots := 0, locals := 60 * (n + 1 + 3) } : Room)).room s m ([.ref (b + x0)] : List Value).toArray below meth c H locs 0 0 (MQ below (va_Qv (fun (_ : Unit) => True) (fun _ t_ => va_P (dC, dI) vwCl (cW cB cI cJ cZ cS cO b cs9) t_.heap ∧ va_D A (cW cB cI cJ cZ cS cO b cs9)) A) ([.ref (b + x0)] : List Value).toArray s 0 0 A) (F0 m 226 ls [.int y0]) := by
    intro cs1 u0 u1 u2 u3 y0 h H locs ls hP hD hS hl
    unfold c_X9_readTest_b226 at h
    refine lv_istore (lv' := [(5, .int y0), (0, .ref (b + u0)), (1, .int u1), (2, .int u2), (3, .int u3)]) hx hb dX9_readTest_226 hl (by decide) rfl (fun ls hl => ?_)
    refine lv_aload_n hx hb dX9_readTest_228 rfl (lv_at hl 1 rfl) ?_
    refine lv_bipush (v := 26) hx hb dX9_readTest_229 (by decide) ?_
    replace h := ob h; obtain ⟨w_8, hw_8, h⟩ := h
    replace h := ob h; obtain ⟨cs_7, hv_7, h⟩ := h
    refine ccV (As := [.int 26]) hx hb hml hts hown hK hP hD hS hA hZ (X := 10) (by decide) rfl (ckE_some hw_8) (sc_X9_expect l dC dI cB cI cJ cZ cS cO b K V fz F cs1 u0 26 cs_7 hv_7) (cw_X9_X9_expect hts (fr := 1) (by show 1 + 1 ≤ n + 1 + 3; omega) (by show 8 + (2 + 11) + 60 * (1) ≤ 60 * (n + 1 + 3); omega)) rfl hl.1 (Nat.le_of_ble_eq_true rfl) ⟨Nat.zero_le _, Nat.zero_le _⟩ dX9_readTest_231 (fun H locs hP hD hS => ?_)
    refine lv_aload_n hx hb dX9_readTest_234 rfl (lv_at hl 1 rfl) ?_
    refine lv_iload hx hb dX9_readTest_235 (lv_at hl 0 rfl) ?_
    refine lv_iload_n hx hb dX9_readTest_237 rfl (lv_at hl 2 rfl) ?_
    refine lv_iload_n hx hb dX9_readTest_238 rfl (lv_at hl 3 rfl) ?_
    refine lv_iload_n hx hb dX9_readTest_239 rfl (lv_at hl 4 rfl) ?_
    refine lv_iconst (v := 1) hx hb dX9_readTest_240 (by decide) ?_
    replace h := ob h; obtain ⟨w_10, hw_10, h⟩ := h
    replace h := ob h; obtain ⟨z_9, hv_9, h⟩ := h
    refine ccI (As := [.int y0, .int u1, .int u2, .int u3, .int 1]) hx hb hml hts hown hK hP hD hS hA hZ (X := 10) (by decide) rfl (ckE_some hw_10) (sc_X9_complete l dC dI cB cI cJ cZ cS cO b K V fz F cs_7 u0 y0 u1 u2 u3 1 z_9.1 z_9.2 hv_9) (cw_X9_X9_complete hts (fr := 1) (by show 1 + 1 ≤ n + 1 + 3; omega) (by show 8 + (6 + 11) + 60 * (1) ≤ 60 * (n + 1 + 3); omega)) rfl hl.1 (Nat.le_of_ble_eq_true rfl) ⟨Nat.zero_le _, Nat.zero_le _⟩ dX9_readTest_241 (fun H locs hP hD hS => ?_)
    refine lv_pop hx hb dX9_readTest_244 rfl ?_
    refine lv_goto (tgt := 282) hx hb dX9_readTest_245 (by decide) ?_
    exact B_282 z_9.1 h _ _ _ hP hD hS (lv_sub hl [] rfl)
  have h := hf
  unfold cb_X9_readTest at h
  refine lv_aload_n hx hb dX9_readTest_0 rfl (lv_at hl 0 rfl) ?_
  replace h := ob h; obtain ⟨v_11, hv_11, h⟩ := h
  refine fg_X9_26 hx hb hts hown hK hP hv_11 dX9_readTest_1 ?_
  replace h := ob h; obtain ⟨i_12, hi_12, h⟩ := h
  subst hi_12
  replace h := ob h; obtain ⟨v_13, hv_13, h⟩ := h
  refine fg_X9_296 hx hb hts hown hK hP hv_13 dX9_readTest_4 ?_
  refine lv_istore_n (lv' := [(1, .int v_13), (0, .ref (b + x0))]) hx hb dX9_readTest_7 rfl hl (by decide) rfl (fun ls hl => ?_)
  refine lv_aload_n hx hb dX9_readTest_8 rfl (lv_at hl 1 rfl) ?_
  replace h := ob h; obtain ⟨w_15, hw_15, h⟩ := h
  replace h := ob h; obtain ⟨v_14, hv_14, h⟩ := h
  refine ccI (As := []) hx hb hml hts hown hK hP hD hS hA hZ (X := 10) (by decide) rfl (ckE_some hw_15) (sc_X9_here l dC dI cB cI cJ cZ cS cO b K V fz F cs x0 v_14 hv_14) (cw_X9_X9_here hts (fr := 0) (by show 0 + 1 ≤ n + 1 + 3; omega) (by show 8 + (1 + 11) + 60 * (0) ≤ 60 * (n + 1 + 3); omega)) rfl hl.1 (Nat.le_of_ble_eq_true rfl) ⟨Nat.zero_le _, Nat.zero_le _⟩ dX9_readTest_9 (fun H locs hP hD hS => ?_)
  refine lv_istore_n (lv' := [(2, .int v_14), (1, .int v_13), (0, .ref (b + x0))]) hx hb dX9_readTest_12 rfl hl (by decide) rfl (fun ls hl => ?_)
  refine lv_aload_n hx hb dX9_readTest_13 rfl (lv_at hl 2 rfl) ?_
  replace h := ob h; obtain ⟨w_17, hw_17, h⟩ := h
  replace h := ob h; obtain ⟨cs_16, hv_16, h⟩ := h
  refine ccV (As := []) hx hb hml hts hown hK hP hD hS hA hZ (X := 10) (by decide) rfl (ckE_some hw_17) (hT_X9_readSum cs x0 cs_16 hv_16) (cw_X9_X9_readSum hts (fr := n + 3) (by show n + 3 + 1 ≤ n + 1 + 3; omega) (by show 8 + (6 + 11) + 60 * (n + 3) ≤ 60 * (n + 1 + 3); omega)) rfl hl.1 (Nat.le_of_ble_eq_true rfl) ⟨Nat.zero_le _, Nat.zero_le _⟩ dX9_readTest_14 (fun H locs hP hD hS => ?_)
  refine lv_aload_n hx hb dX9_readTest_17 rfl (lv_at hl 2 rfl) ?_
  replace h := ob h; obtain ⟨w_19, hw_19, h⟩ := h
  replace h := ob h; obtain ⟨v_18, hv_18, h⟩ := h
  refine ccI (As := []) hx hb hml hts hown hK hP hD hS hA hZ (X := 10) (by decide) rfl (ckE_some hw_19) (sc_X9_here l dC dI cB cI cJ cZ cS cO b K V fz F cs_16 x0 v_18 hv_18) (cw_X9_X9_here hts (fr := 0) (by show 0 + 1 ≤ n + 1 + 3; omega) (by show 8 + (1 + 11) + 60 * (0) ≤ 60 * (n + 1 + 3); omega)) rfl hl.1 (Nat.le_of_ble_eq_true rfl) ⟨Nat.zero_le _, Nat.zero_le _⟩ dX9_readTest_18 (fun H locs hP hD hS => ?_)
  refine lv_istore_n (lv' := [(3, .int v_18), (2, .int v_14), (1, .int v_13), (0, .ref (b + x0))]) hx hb dX9_readTest_21 rfl hl (by decide) rfl (fun ls hl => ?_)
  refine lv_aload_n hx hb dX9_readTest_22 rfl (lv_at hl 3 rfl) ?_
  replace h := ob h; obtain ⟨w_21, hw_21, h⟩ := h
  replace h := ob h; obtain ⟨v_20, hv_20, h⟩ := h
  refine ccI (As := []) hx hb hml hts hown hK hP hD hS hA hZ (X := 10) (by decide) rfl (ckE_some hw_21) (sc_X9_kind l dC dI cB cI cJ cZ cS cO b K V fz F cs_16 x0 v_20 hv_20) (cw_X9_X9_kind hts (fr := 0) (by show 0 + 1 ≤ n + 1 + 3; omega) (by show 8 + (1 + 11) + 60 * (0) ≤ 60 * (n + 1 + 3); omega)) rfl hl.1 (Nat.le_of_ble_eq_true rfl) ⟨Nat.zero_le _, Nat.zero_le _⟩ dX9_readTest_23 (fun H locs hP hD hS => ?_)
  refine lv_istore (lv' := [(4, .int v_20), (3, .int v_18), (2, .int v_14), (1, .int v_13), (0, .ref (b + x0))]) hx hb dX9_readTest_26 hl (by decide) rfl (fun ls hl => ?_)
  refine lv_iload hx hb dX9_readTest_28 (lv_at hl 0 rfl) ?_
  by_cases c_22 : v_20 = 24
  · skip
    replace h := (if_pos c_22).symm.trans h
    refine lv_tableIn (tgt := 200) (off := 170) hx hb dX9_readTest_30 (by rw [c_22]; decide) (by rw [c_22]; decide) (by rw [c_22]; decide) (by decide) ?_
    refine lv_aload_n hx hb dX9_readTest_200 rfl (lv_at hl 4 rfl) ?_
    refine lv_dup hx hb dX9_readTest_201 rfl ?_
    replace h := ob h; obtain ⟨v_23, hv_23, h⟩ := h
    refine fg_X9_99 hx hb hts hown hK hP hv_23 dX9_readTest_202 ?_
    refine lv_iconst (v := 1) hx hb dX9_readTest_205 (by decide) ?_
    refine lv_iadd hx hb dX9_readTest_206 ?_
    replace h := ob h; obtain ⟨cs_24, hv_24, h⟩ := h
    refine fp_X9_99 hx hb hts hown hK hP hD hS hv_24 dX9_readTest_207 (fun H locs hP hD hS => ?_)
    refine lv_aload_n hx hb dX9_readTest_210 rfl (lv_at hl 4 rfl) ?_
    refine lv_bipush (v := 25) hx hb dX9_readTest_211 (by decide) ?_
    replace h := ob h; obtain ⟨w_26, hw_26, h⟩ := h
    replace h := ob h; obtain ⟨z_25, hv_25, h⟩ := h
    refine ccI (As := [.int 25]) hx hb hml hts hown hK hP hD hS hA hZ (X := 10) (by decide) rfl (ckE_some hw_26) (sc_X9_accept l dC dI cB cI cJ cZ cS cO b K V fz F cs_24 x0 25 z_25.1 z_25.2 hv_25) (cw_X9_X9_accept hts (fr := 1) (by show 1 + 1 ≤ n + 1 + 3; omega) (by show 8 + (3 + 11) + 60 * (1) ≤ 60 * (n + 1 + 3); omega)) rfl hl.1 (Nat.le_of_ble_eq_true rfl) ⟨Nat.zero_le _, Nat.zero_le _⟩ dX9_readTest_213 (fun H locs hP hD hS => ?_)
    refine lv_if_eq (tgt := 224) hx hb dX9_readTest_216 (by decide) (fun c_27 => ?_) (fun c_27 => ?_)
    · skip
      replace h := (if_pos c_27).symm.trans h
      refine lv_bipush (v := 24) hx hb dX9_readTest_224 (by decide) ?_
      exact B_226 z_25.1 x0 v_13 v_14 v_18 24 h _ _ _ hP hD hS (lv_sub hl [4, 3, 2, 1] rfl)
    · skip
      replace h := (if_neg c_27).symm.trans h
      refine lv_bipush (v := 59) hx hb dX9_readTest_219 (by decide) ?_
      refine lv_goto (tgt := 226) hx hb dX9_readTest_221 (by decide) ?_
      exact B_226 z_25.1 x0 v_13 v_14 v_18 59 h _ _ _ hP hD hS (lv_sub hl [4, 3, 2, 1] rfl)
  replace h := (if_neg c_22).symm.trans h
  by_cases c_28 : v_20 = 25
  · skip
    replace h := (if_pos c_28).symm.trans h
    refine lv_tableIn (tgt := 248) (off := 218) hx hb dX9_readTest_30 (by rw [c_28]; decide) (by rw [c_28]; decide) (by rw [c_28]; decide) (by decide) ?_
    refine lv_aload_n hx hb dX9_readTest_248 rfl (lv_at hl 4 rfl) ?_
    refine lv_dup hx hb dX9_readTest_249 rfl ?_
    replace h := ob h; obtain ⟨v_29, hv_29, h⟩ := h
    refine fg_X9_99 hx hb hts hown hK hP hv_29 dX9_readTest_250 ?_
    refine lv_iconst (v := 1) hx hb dX9_readTest_253 (by decide) ?_
    refine lv_iadd hx hb dX9_readTest_254 ?_
    replace h := ob h; obtain ⟨cs_30, hv_30, h⟩ := h
    refine fp_X9_99 hx hb hts hown hK hP hD hS hv_30 dX9_readTest_255 (fun H locs hP hD hS => ?_)
    refine lv_aload_n hx hb dX9_readTest_258 rfl (lv_at hl 4 rfl) ?_
    refine lv_bipush (v := 60) hx hb dX9_readTest_259 (by decide) ?_
    refine lv_iload_n hx hb dX9_readTest_261 rfl (lv_at hl 3 rfl) ?_
    refine lv_iload_n hx hb dX9_readTest_262 rfl (lv_at hl 2 rfl) ?_
    refine lv_iload_n hx hb dX9_readTest_263 rfl (lv_at hl 1 rfl) ?_
    replace h := ob h; obtain ⟨w_32, hw_32, h⟩ := h
    replace h := ob h; obtain ⟨cs_31, hv_31, h⟩ := h
    refine ccV (As := [.int 60, .int v_13, .int v_14, .int v_18]) hx hb hml hts hown hK hP hD hS hA hZ (X := 10) (by decide) rfl (ckE_some hw_32) (hT_X9_readList cs_30 x0 60 v_13 v_14 v_18 cs_31 hv_31) (cw_X9_X9_readList hts (fr := n + 3) (by show n + 3 + 1 ≤ n + 1 + 3; omega) (by show 8 + (8 + 11) + 60 * (n + 3) ≤ 60 * (n + 1 + 3); omega)) rfl hl.1 (Nat.le_of_ble_eq_true rfl) ⟨Nat.zero_le _, Nat.zero_le _⟩ dX9_readTest_264 (fun H locs hP hD hS => ?_)
    refine lv_goto (tgt := 282) hx hb dX9_readTest_267 (by decide) ?_
    exact B_282 cs_31 h _ _ _ hP hD hS (lv_sub hl [] rfl)
  replace h := (if_neg c_28).symm.trans h
  by_cases c_33 : v_20 = 27
  · skip
    replace h := (if_pos c_33).symm.trans h
    refine lv_tableIn (tgt := 270) (off := 240) hx hb dX9_readTest_30 (by rw [c_33]; decide) (by rw [c_33]; decide) (by rw [c_33]; decide) (by decide) ?_
    refine lv_aload_n hx hb dX9_readTest_270 rfl (lv_at hl 4 rfl) ?_
    refine lv_bipush (v := 27) hx hb dX9_readTest_271 (by decide) ?_
    refine lv_iload_n hx hb dX9_readTest_273 rfl (lv_at hl 3 rfl) ?_
    refine lv_iload_n hx hb dX9_readTest_274 rfl (lv_at hl 2 rfl) ?_
    refine lv_iload_n hx hb dX9_readTest_275 rfl (lv_at hl 1 rfl) ?_
    replace h := ob h; obtain ⟨w_35, hw_35, h⟩ := h
    replace h := ob h; obtain ⟨cs_34, hv_34, h⟩ := h
    refine ccV (As := [.int 27, .int v_13, .int v_14, .int v_18]) hx hb hml hts hown hK hP hD hS hA hZ (X := 10) (by decide) rfl (ckE_some hw_35) (hT_X9_readList cs_16 x0 27 v_13 v_14 v_18 cs_34 hv_34) (cw_X9_X9_readList hts (fr := n + 3) (by show n + 3 + 1 ≤ n + 1 + 3; omega) (by show 8 + (8 + 11) + 60 * (n + 3) ≤ 60 * (n + 1 + 3); omega)) rfl hl.1 (Nat.le_of_ble_eq_true rfl) ⟨Nat.zero_le _, Nat.zero_le _⟩ dX9_readTest_276 (fun H locs hP hD hS => ?_)
    refine lv_goto (tgt := 282) hx hb dX9_readTest_279 (by decide) ?_
    exact B_282 cs_34 h _ _ _ hP hD hS (lv_sub hl [] rfl)
  replace h := (if_neg c_33).symm.trans h
  by_cases c_36 : v_20 = 50
  · skip
    replace h := (if_pos c_36).symm.trans h
    refine lv_tableIn (tgt := 172) (off := 142) hx hb dX9_readTest_30 (by rw [c_36]; decide) (by rw [c_36]; decide) (by rw [c_36]; decide) (by decide) ?_
    exact B_172 cs_16 x0 v_13 v_14 v_18 v_20 h _ _ _ hP hD hS (lv_sub hl [4, 3, 2, 1, 0] rfl)
  replace h := (if_neg c_36).symm.trans h
  by_cases c_37 : v_20 = 51
  · skip
    replace h := (if_pos c_37).symm.trans h
    refine lv_tableIn (tgt := 172) (off := 142) hx hb dX9_readTest_30 (by rw [c_37]; decide) (by rw [c_37]; decide) (by rw [c_37]; decide) (by decide) ?_
    exact B_172 cs_16 x0 v_13 v_14 v_18 v_20 h _ _ _ hP hD hS (lv_sub hl [4, 3, 2, 1, 0] rfl)
  replace h := (if_neg c_37).symm.trans h
  by_cases c_38 : v_20 = 52
  · skip
    replace h := (if_pos c_38).symm.trans h
    refine lv_tableIn (tgt := 172) (off := 142) hx hb dX9_readTest_30 (by rw [c_38]; decide) (by rw [c_38]; decide) (by rw [c_38]; decide) (by decide) ?_
    exact B_172 cs_16 x0 v_13 v_14 v_18 v_20 h _ _ _ hP hD hS (lv_sub hl [4, 3, 2, 1, 0] rfl)
  replace h := (if_neg c_38).symm.trans h
  by_cases c_39 : v_20 = 53
  · skip
    replace h := (if_pos c_39).symm.trans h
    refine lv_tableIn (tgt := 172) (off := 142) hx hb dX9_readTest_30 (by rw [c_39]; decide) (by rw [c_39]; decide) (by rw [c_39]; decide) (by decide) ?_
    exact B_172 cs_16 x0 v_13 v_14 v_18 v_20 h _ _ _ hP hD hS (lv_sub hl [4, 3, 2, 1, 0] rfl)
  replace h := (if_neg c_39).symm.trans h
  by_cases c_40 : v_20 = 54
  · skip
    replace h := (if_pos c_40).symm.trans h
    refine lv_tableIn (tgt := 172) (off := 142) hx hb dX9_readTest_30 (by rw [c_40]; decide) (by rw [c_40]; decide) (by rw [c_40]; decide) (by decide) ?_
    exact B_172 cs_16 x0 v_13 v_14 v_18 v_20 h _ _ _ hP hD hS (lv_sub hl [4, 3, 2, 1, 0] rfl)
  replace h := (if_neg c_40).symm.trans h
  by_cases c_41 : v_20 = 55
  · skip
    replace h := (if_pos c_41).symm.trans h
    refine lv_tableIn (tgt := 172) (off := 142) hx hb dX9_readTest_30 (by rw [c_41]; decide) (by rw [c_41]; decide) (by rw [c_41]; decide) (by decide) ?_
    exact B_172 cs_16 x0 v_13 v_14 v_18 v_20 h _ _ _ hP hD hS (lv_sub hl [4, 3, 2, 1, 0] rfl)
  replace h := (if_neg c_41).symm.trans h
  have n_22 : ¬ (v_20 : Int32).toInt = 24 := lv_neT c_22 (by decide)
  have n_28 : ¬ (v_20 : Int32).toInt = 25 := lv_neT c_28 (by decide)
  have n_33 : ¬ (v_20 : Int32).toInt = 27 := lv_neT c_33 (by decide)
  have n_36 : ¬ (v_20 : Int32).toInt = 50 := lv_neT c_36 (by decide)
  have n_37 : ¬ (v_20 : Int32).toInt = 51 := lv_neT c_37 (by decide)
  have n_38 : ¬ (v_20 : Int32).toInt = 52 := lv_neT c_38 (by decide)
  have n_39 : ¬ (v_20 : Int32).toInt = 53 := lv_neT c_39 (by decide)
  have n_40 : ¬ (v_20 : Int32).toInt = 54 := lv_neT c_40 (by decide)
  have n_41 : ¬ (v_20 : Int32).toInt = 55 := lv_neT c_41 (by decide)
  by_cases hq_30 : (v_20 : Int32).toInt < 24 ∨ 55 < (v_20 : Int32).toInt
  · skip
    refine lv_tableOut (tgt := 282) hx hb dX9_readTest_30 hq_30 (by decide) ?_
    exact B_282 cs_16 h _ _ _ hP hD hS (lv_sub hl [] rfl)
  by_cases hq_30_26 : (v_20 : Int32).toInt = 26
  · skip
    refine lv_tableIn (tgt := 282) (off := 252) hx hb dX9_readTest_30 (by omega) (by omega) (by rw [hq_30_26]; decide) (by decide) ?_
    exact B_282 cs_16 h _ _ _ hP hD hS (lv_sub hl [] rfl)
  by_cases hq_30_28 : (v_20 : Int32).toInt = 28
  · skip
    refine lv_tableIn (tgt := 282) (off := 252) hx hb dX9_readTest_30 (by omega) (by omega) (by rw [hq_30_28]; decide) (by decide) ?_
    exact B_282 cs_16 h _ _ _ hP hD hS (lv_sub hl [] rfl)
  by_cases hq_30_29 : (v_20 : Int32).toInt = 29
  · skip
    refine lv_tableIn (tgt := 282) (off := 252) hx hb dX9_readTest_30 (by omega) (by omega) (by rw [hq_30_29]; decide) (by decide) ?_
    exact B_282 cs_16 h _ _ _ hP hD hS (lv_sub hl [] rfl)
  by_cases hq_30_30 : (v_20 : Int32).toInt = 30
  · skip
    refine lv_tableIn (tgt := 282) (off := 252) hx hb dX9_readTest_30 (by omega) (by omega) (by rw [hq_30_30]; decide) (by decide) ?_
    exact B_282 cs_16 h _ _ _ hP hD hS (lv_sub hl [] rfl)
  by_cases hq_30_31 : (v_20 : Int32).toInt = 31
  · skip
    refine lv_tableIn (tgt := 282) (off := 252) hx hb dX9_readTest_30 (by omega) (by omega) (by rw [hq_30_31]; decide) (by decide) ?_
    exact B_282 cs_16 h _ _ _ hP hD hS (lv_sub hl [] rfl)
  by_cases hq_30_32 : (v_20 : Int32).toInt = 32
  · skip
    refine lv_tableIn (tgt := 282) (off := 252) hx hb dX9_readTest_30 (by omega) (by omega) (by rw [hq_30_32]; decide) (by decide) ?_
    exact B_282 cs_16 h _ _ _ hP hD hS (lv_sub hl [] rfl)
  by_cases hq_30_33 : (v_20 : Int32).toInt = 33
  · skip
    refine lv_tableIn (tgt := 282) (off := 252) hx hb dX9_readTest_30 (by omega) (by omega) (by rw [hq_30_33]; decide) (by decide) ?_
    exact B_282 cs_16 h _ _ _ hP hD hS (lv_sub hl [] rfl)
  by_cases hq_30_34 : (v_20 : Int32).toInt = 34
  · skip
    refine lv_tableIn (tgt := 282) (off := 252) hx hb dX9_readTest_30 (by omega) (by omega) (by rw [hq_30_34]; decide) (by decide) ?_
    exact B_282 cs_16 h _ _ _ hP hD hS (lv_sub hl [] rfl)
  by_cases hq_30_35 : (v_20 : Int32).toInt = 35
  · skip
    refine lv_tableIn (tgt := 282) (off := 252) hx hb dX9_readTest_30 (by omega) (by omega) (by rw [hq_30_35]; decide) (by decide) ?_
    exact B_282 cs_16 h _ _ _ hP hD hS (lv_sub hl [] rfl)
  by_cases hq_30_36 : (v_20 : Int32).toInt = 36
  · skip
    refine lv_tableIn (tgt := 282) (off := 252) hx hb dX9_readTest_30 (by omega) (by omega) (by rw [hq_30_36]; decide) (by decide) ?_
    exact B_282 cs_16 h _ _ _ hP hD hS (lv_sub hl [] rfl)
  by_cases hq_30_37 : (v_20 : Int32).toInt = 37
  · skip
    refine lv_tableIn (tgt := 282) (off := 252) hx hb dX9_readTest_30 (by omega) (by omega) (by rw [hq_30_37]; decide) (by decide) ?_
    exact B_282 cs_16 h _ _ _ hP hD hS (lv_sub hl [] rfl)
  by_cases hq_30_38 : (v_20 : Int32).toInt = 38
  · skip
    refine lv_tableIn (tgt := 282) (off := 252) hx hb dX9_readTest_30 (by omega) (by omega) (by rw [hq_30_38]; decide) (by decide) ?_
    exact B_282 cs_16 h _ _ _ hP hD hS (lv_sub hl [] rfl)
  by_cases hq_30_39 : (v_20 : Int32).toInt = 39
  · skip
    refine lv_tableIn (tgt := 282) (off := 252) hx hb dX9_readTest_30 (by omega) (by omega) (by rw [hq_30_39]; decide) (by decide) ?_
    exact B_282 cs_16 h _ _ _ hP hD hS (lv_sub hl [] rfl)
  by_cases hq_30_40 : (v_20 : Int32).toInt = 40
  · skip
    refine lv_tableIn (tgt := 282) (off := 252) hx hb dX9_readTest_30 (by omega) (by omega) (by rw [hq_30_40]; decide) (by decide) ?_
    exact B_282 cs_16 h _ _ _ hP hD hS (lv_sub hl [] rfl)
  by_cases hq_30_41 : (v_20 : Int32).toInt = 41
  · skip
    refine lv_tableIn (tgt := 282) (off := 252) hx hb dX9_readTest_30 (by omega) (by omega) (by rw [hq_30_41]; decide) (by decide) ?_
    exact B_282 cs_16 h _ _ _ hP hD hS (lv_sub hl [] rfl)
  by_cases hq_30_42 : (v_20 : Int32).toInt = 42
  · skip
    refine lv_tableIn (tgt := 282) (off := 252) hx hb dX9_readTest_30 (by omega) (by omega) (by rw [hq_30_42]; decide) (by decide) ?_
    exact B_282 cs_16 h _ _ _ hP hD hS (lv_sub hl [] rfl)
  by_cases hq_30_43 : (v_20 : Int32).toInt = 43
  · skip
    refine lv_tableIn (tgt := 282) (off := 252) hx hb dX9_readTest_30 (by omega) (by omega) (by rw [hq_30_43]; decide) (by decide) ?_
    exact B_282 cs_16 h _ _ _ hP hD hS (lv_sub hl [] rfl)
  by_cases hq_30_44 : (v_20 : Int32).toInt = 44
  · skip
    refine lv_tableIn (tgt := 282) (off := 252) hx hb dX9_readTest_30 (by omega) (by omega) (by rw [hq_30_44]; decide) (by decide) ?_
    exact B_282 cs_16 h _ _ _ hP hD hS (lv_sub hl [] rfl)
  by_cases hq_30_45 : (v_20 : Int32).toInt = 45
  · skip
    refine lv_tableIn (tgt := 282) (off := 252) hx hb dX9_readTest_30 (by omega) (by omega) (by rw [hq_30_45]; decide) (by decide) ?_
    exact B_282 cs_16 h _ _ _ hP hD hS (lv_sub hl [] rfl)
  by_cases hq_30_46 : (v_20 : Int32).toInt = 46
  · skip
    refine lv_tableIn (tgt := 282) (off := 252) hx hb dX9_readTest_30 (by omega) (by omega) (by rw [hq_30_46]; decide) (by decide) ?_
    exact B_282 cs_16 h _ _ _ hP hD hS (lv_sub hl [] rfl)
  by_cases hq_30_47 : (v_20 : Int32).toInt = 47
  · skip
    refine lv_tableIn (tgt := 282) (off := 252) hx hb dX9_readTest_30 (by omega) (by omega) (by rw [hq_30_47]; decide) (by decide) ?_
    exact B_282 cs_16 h _ _ _ hP hD hS (lv_sub hl [] rfl)
  by_cases hq_30_48 : (v_20 : Int32).toInt = 48
  · skip
    refine lv_tableIn (tgt := 282) (off := 252) hx hb dX9_readTest_30 (by omega) (by omega) (by rw [hq_30_48]; decide) (by decide) ?_
    exact B_282 cs_16 h _ _ _ hP hD hS (lv_sub hl [] rfl)
  by_cases hq_30_49 : (v_20 : Int32).toInt = 49
  · skip
    refine lv_tableIn (tgt := 282) (off := 252) hx hb dX9_readTest_30 (by omega) (by omega) (by rw [hq_30_49]; decide) (by decide) ?_
    exact B_282 cs_16 h _ _ _ hP hD hS (lv_sub hl [] rfl)
  exfalso
  omega
set_option maxHeartbeats 4000000 in
set_option maxRecDepth 100000 in
theorem sbc_X9_readSum (l : Launch) (dC : Nat → ClassId) (dI : Nat → Nat → Nat) (cB cI cJ cZ cS cO : ClassId) (b : Nat) (K V : Nat → Nat) (fz : Value) (F : Nat) (n : Nat) (T : TC_X9_readExpr) (hT_X9_readExpr : ∀ (cs : CS) (x0 : Nat) (cs9 : CS) (r9 : Int32), T.1 cs x0 = some (cs9, r9) → ocI l dC dI cB cI cJ cZ cS cO b K V fz yX9_readExpr (wsOf yX9_readExpr cX9_readExpr 5 (some .int)) (n + 3) [.ref (b + x0)] cs cs9 r9) (hT_X9_readConjunction : ∀ (cs : CS) (x0 : Nat) (cs9 : CS), T.2.1 cs x0 = some cs9 → ocV l dC dI cB cI cJ cZ cS cO b K V fz yX9_readConjunction (wsOf yX9_readConjunction cX9_readConjunction 5 none) (n + 3) [.ref (b + x0)] cs cs9) (hT_X9_readNegation : ∀ (cs : CS) (x0 : Nat) (cs9 : CS), T.2.2.1 cs x0 = some cs9 → ocV l dC dI cB cI cJ cZ cS cO b K V fz yX9_readNegation (wsOf yX9_readNegation cX9_readNegation 3 none) (n + 3) [.ref (b + x0)] cs cs9) (hT_X9_readTest : ∀ (cs : CS) (x0 : Nat) (cs9 : CS), T.2.2.2.1 cs x0 = some cs9 → ocV l dC dI cB cI cJ cZ cS cO b K V fz yX9_readTest (wsOf yX9_readTest cX9_readTest 6 none) (n + 3) [.ref (b + x0)] cs cs9) (hT_X9_readSum : ∀ (cs : CS) (x0 : Nat) (cs9 : CS), T.2.2.2.2.1 cs x0 = some cs9 → ocV l dC dI cB cI cJ cZ cS cO b K V fz yX9_readSum (wsOf yX9_readSum cX9_readSum 6 none) (n + 3) [.ref (b + x0)] cs cs9) (hT_X9_readPart : ∀ (cs : CS) (x0 : Nat) (cs9 : CS), T.2.2.2.2.2.1 cs x0 = some cs9 → ocV l dC dI cB cI cJ cZ cS cO b K V fz yX9_readPart (wsOf yX9_readPart cX9_readPart 6 none) (n + 3) [.ref (b + x0)] cs cs9) (hT_X9_readSign : ∀ (cs : CS) (x0 : Nat) (cs9 : CS), T.2.2.2.2.2.2.1 cs x0 = some cs9 → ocV l dC dI cB cI cJ cZ cS cO b K V fz yX9_readSign (wsOf yX9_readSign cX9_readSign 3 none) (n + 3) [.ref (b + x0)] cs cs9) (hT_X9_readOne : ∀ (cs : CS) (x0 : Nat) (cs9 : CS), T.2.2.2.2.2.2.2.1 cs x0 = some cs9 → ocV l dC dI cB cI cJ cZ cS cO b K V fz yX9_readOne (wsOf yX9_readOne cX9_readOne 1 none) (n + 3) [.ref (b + x0)] cs cs9) (hT_X9_readCase : ∀ (cs : CS) (x0 : Nat) (cs9 : CS), T.2.2.2.2.2.2.2.2.1 cs x0 = some cs9 → ocV l dC dI cB cI cJ cZ cS cO b K V fz yX9_readCase (wsOf yX9_readCase cX9_readCase 3 none) (n + 3) [.ref (b + x0)] cs cs9) (hT_X9_readSpan : ∀ (cs : CS) (x0 : Nat) (cs9 : CS), T.2.2.2.2.2.2.2.2.2.1 cs x0 = some cs9 → ocV l dC dI cB cI cJ cZ cS cO b K V fz yX9_readSpan (wsOf yX9_readSpan cX9_readSpan 3 none) (n + 3) [.ref (b + x0)] cs cs9) (hT_X9_readAggregate : ∀ (cs : CS) (x0 : Nat) (cs9 : CS), T.2.2.2.2.2.2.2.2.2.2.1 cs x0 = some cs9 → ocV l dC dI cB cI cJ cZ cS cO b K V fz yX9_readAggregate (wsOf yX9_readAggregate cX9_readAggregate 7 none) (n + 3) [.ref (b + x0)] cs cs9) (hT_X9_readList : ∀ (cs : CS) (x0 : Nat) (x1 : Int32) (x2 : Int32) (x3 : Int32) (x4 : Int32) (cs9 : CS), T.2.2.2.2.2.2.2.2.2.2.2 cs x0 x1 x2 x3 x4 = some cs9 → ocV l dC dI cB cI cJ cZ cS cO b K V fz yX9_readList (wsOf yX9_readList cX9_readList 8 none) (n + 3) [.ref (b + x0), .int x1, .int x2, .int x3, .int x4] cs cs9) (cs : CS) (x0 : Nat) (cs9 : CS) (hf : cb_X9_readSum F T cs x0 = some cs9) : ocV l dC dI cB cI cJ cZ cS cO b K V fz yX9_readSum (wsOf yX9_readSum cX9_readSum 6 none) (n + 1 + 3) [.ref (b + x0)] cs cs9 := by
  intro sz
  refine Met.ofW (cc := cX9_readSum) (maxL := 6) (ret := none) (by decide) rfl ?_
  intro p e s m args below meth c s₁ B hml hv
  obtain ⟨rfl, hsz, hP, hK, hD0, hZ⟩ := hv
  have hx := B.exec
  have hb := B.bytes
  have hr := B.returns
  have hts := atoms_spec (ws := (wsOf yX9_readSum cX9_readSum 6 none)) B.pre
  have hown : s.vm.findClass RX9 = some m.cls := findClass_of_methodNamed B.named
  have hlocks := B.notSynchronized
  subst hsz
  have hD := hD0.self (sz := s.heap.size)
  generalize hAe : va_A (cW cB cI cJ cZ cS cO b cs) s.heap.size = A at hD hZ ⊢
  have hA : ∀ q : Nat, s.heap.size ≤ q → A q := fun q h => by rw [← hAe]; exact Or.inr h
  have hS : va_S A s.heap s.heap [] := va_S.rf
  have hl := lv_entry ([.ref (b + x0)]) (n := 6) (Nat.le_of_ble_eq_true rfl)
  rw [lg_entry_eq]
  generalize (lg_sl ([.ref (b + x0)]) ++ List.replicate (6 - (lg_sl ([.ref (b + x0)])).length) Slot.unset).toArray = ls at hl ⊢
  have hl : lv_has ls 6 [(0, .ref (b + x0))] := hl
  have B_88 : ∀ (cs1 : CS) , c_X9_readSum_b88 F T cs1 = some cs9 → ∀ (H : Heap) (locs : List Loc) (ls : Array Slot), va_P (dC, dI) vwCl (cW cB cI cJ cZ cS cO b cs1) H → va_D A (cW cB cI cJ cZ cS cO b cs1) → va_S A s.heap H locs → lv_has ls 6 [] → W p l e (headSpec (wsOf yX9_readSum cX9_readSum 6 none) ({ frames := n + 1 + 3, cells := 0, slots := 0, locals := 60 * (n + 1 + 3) } : Room)).room s m ([.ref (b + x0)] : List Value).toArray below meth c H locs 0 0 (MQ below (va_Qv (fun (_ : Unit) => True) (fun _ t_ => va_P (dC, dI) vwCl (cW cB cI cJ cZ cS cO b cs9) t_.heap ∧ va_D A (cW cB cI cJ cZ cS cO b cs9)) A) ([.ref (b + x0)] : List Value).toArray s 0 0 A) (F0 m 88 ls []) := by
    intro cs1  h H locs ls hP hD hS hl
    unfold c_X9_readSum_b88 at h
    have e1 := Option.some.inj h
    rw [e1] at hP hD
    exact W.vret hx hb hr (fun t_ ht hW => ⟨⟨(), rfl, trivial, by rw [ht]; exact hP, hD⟩, hS.F ht⟩) hS.2.2 dX9_readSum_88
  have L_19 : ∀ (lf_19 : Nat), ∀ (cs1 : CS) (u0 : Nat) (u1 : Int32) (u2 : Int32) (u3 : Int32), c_X9_readSum_L19 F T lf_19 cs1 u0 u1 u2 u3 = some cs9 → ∀ (H : Heap) (locs : List Loc) (ls : Array Slot), va_P (dC, dI) vwCl (cW cB cI cJ cZ cS cO b cs1) H → va_D A (cW cB cI cJ cZ cS cO b cs1) → va_S A s.heap H locs → lv_has ls 6 [(0, .ref (b + u0)), (1, .int u1), (2, .int u2), (3, .int u3)] → W p l e (headSpec (wsOf yX9_readSum cX9_readSum 6 none) ({ frames := n + 1 + 3, cells := 0, slots := 0, locals := 60 * (n + 1 + 3) } : Room)).room s m ([.ref (b + x0)] : List Value).toArray below meth c H locs 0 0 (MQ below (va_Qv (fun (_ : Unit) => True) (fun _ t_ => va_P (dC, dI) vwCl (cW cB cI cJ cZ cS cO b cs9) t_.heap ∧ va_D A (cW cB cI cJ cZ cS cO b cs9)) A) ([.ref (b + x0)] : List Value).toArray s 0 0 A) (F0 m 19 ls []) := by
    intro lf_19
    induction lf_19 with
    | zero => intro cs1 u0 u1 u2 u3 h; cases (show (none : Option CS) = _ from h)
    | succ lf_19 ih_19 =>
      have B_44 : ∀ (cs1 : CS) (u0 : Nat) (u1 : Int32) (u2 : Int32) (u3 : Int32), c_X9_readSum_b44 F T (c_X9_readSum_L19 F T lf_19) cs1 u0 u1 u2 u3 = some cs9 → ∀ (H : Heap) (locs : List Loc) (ls : Array Slot), va_P (dC, dI) vwCl (cW cB cI cJ cZ cS cO b cs1) H → va_D A (cW cB cI cJ cZ cS cO b cs1) → va_S A s.heap H locs → lv_has ls 6 [(0, .ref (b + u0)), (1, .int u1), (2, .int u2), (3, .int u3)] → W p l e (headSpec (wsOf yX9_readSum cX9_readSum 6 none) ({ frames := n + 1 + 3, cells := 0, slots := 0, locals := 60 * (n + 1 + 3) } : Room)).room s m ([.ref (b + x0)] : List Value).toArray below meth c H locs 0 0 (MQ below (va_Qv (fun (_ : Unit) => True) (fun _ t_ => va_P (dC, dI) vwCl (cW cB cI cJ cZ cS cO b cs9) t_.heap ∧ va_D A (cW cB cI cJ cZ cS cO b cs9)) A) ([.ref (b + x0)] : List Value).toArray s 0 0 A) (F0 m 44 ls []) := by
        intro cs1 u0 u1 u2 u3 h H locs ls hP hD hS hl
        unfold c_X9_readSum_b44 at h
        refine lv_aload_n hx hb dX9_readSum_44 rfl (lv_at hl 0 rfl) ?_
        replace h := ob h; obtain ⟨w_2, hw_2, h⟩ := h
        replace h := ob h; obtain ⟨v_1, hv_1, h⟩ := h
        refine ccI (As := []) hx hb hml hts hown hK hP hD hS hA hZ (X := 10) (by decide) rfl (ckE_some hw_2) (sc_X9_kind l dC dI cB cI cJ cZ cS cO b K V fz F cs1 u0 v_1 hv_1) (cw_X9_X9_kind hts (fr := 0) (by show 0 + 1 ≤ n + 1 + 3; omega) (by show 8 + (1 + 11) + 60 * (0) ≤ 60 * (n + 1 + 3); omega)) rfl hl.1 (Nat.le_of_ble_eq_true rfl) ⟨Nat.zero_le _, Nat.zero_le _⟩ dX9_readSum_45 (fun H locs hP hD hS => ?_)
        refine lv_istore (lv' := [(4, .int v_1), (0, .ref (b + u0)), (1, .int u1), (2, .int u2), (3, .int u3)]) hx hb dX9_readSum_48 hl (by decide) rfl (fun ls hl => ?_)
        refine lv_aload_n hx hb dX9_readSum_50 rfl (lv_at hl 1 rfl) ?_
        replace h := ob h; obtain ⟨w_4, hw_4, h⟩ := h
        replace h := ob h; obtain ⟨v_3, hv_3, h⟩ := h
        refine ccI (As := []) hx hb hml hts hown hK hP hD hS hA hZ (X := 10) (by decide) rfl (ckE_some hw_4) (sc_X9_here l dC dI cB cI cJ cZ cS cO b K V fz F cs1 u0 v_3 hv_3) (cw_X9_X9_here hts (fr := 0) (by show 0 + 1 ≤ n + 1 + 3; omega) (by show 8 + (1 + 11) + 60 * (0) ≤ 60 * (n + 1 + 3); omega)) rfl hl.1 (Nat.le_of_ble_eq_true rfl) ⟨Nat.zero_le _, Nat.zero_le _⟩ dX9_readSum_51 (fun H locs hP hD hS => ?_)
        refine lv_istore (lv' := [(5, .int v_3), (4, .int v_1), (0, .ref (b + u0)), (1, .int u1), (2, .int u2), (3, .int u3)]) hx hb dX9_readSum_54 hl (by decide) rfl (fun ls hl => ?_)
        refine lv_aload_n hx hb dX9_readSum_56 rfl (lv_at hl 2 rfl) ?_
        refine lv_dup hx hb dX9_readSum_57 rfl ?_
        replace h := ob h; obtain ⟨v_5, hv_5, h⟩ := h
        refine fg_X9_99 hx hb hts hown hK hP hv_5 dX9_readSum_58 ?_
        refine lv_iconst (v := 1) hx hb dX9_readSum_61 (by decide) ?_
        refine lv_iadd hx hb dX9_readSum_62 ?_
        replace h := ob h; obtain ⟨cs_6, hv_6, h⟩ := h
        refine fp_X9_99 hx hb hts hown hK hP hD hS hv_6 dX9_readSum_63 (fun H locs hP hD hS => ?_)
        refine lv_aload_n hx hb dX9_readSum_66 rfl (lv_at hl 2 rfl) ?_
        replace h := ob h; obtain ⟨w_8, hw_8, h⟩ := h
        replace h := ob h; obtain ⟨cs_7, hv_7, h⟩ := h
        refine ccV (As := []) hx hb hml hts hown hK hP hD hS hA hZ (X := 10) (by decide) rfl (ckE_some hw_8) (hT_X9_readPart cs_6 u0 cs_7 hv_7) (cw_X9_X9_readPart hts (fr := n + 3) (by show n + 3 + 1 ≤ n + 1 + 3; omega) (by show 8 + (6 + 11) + 60 * (n + 3) ≤ 60 * (n + 1 + 3); omega)) rfl hl.1 (Nat.le_of_ble_eq_true rfl) ⟨Nat.zero_le _, Nat.zero_le _⟩ dX9_readSum_67 (fun H locs hP hD hS => ?_)
        refine lv_aload_n hx hb dX9_readSum_70 rfl (lv_at hl 2 rfl) ?_
        refine lv_iload hx hb dX9_readSum_71 (lv_at hl 1 rfl) ?_
        refine lv_iload_n hx hb dX9_readSum_73 rfl (lv_at hl 3 rfl) ?_
        refine lv_iload_n hx hb dX9_readSum_74 rfl (lv_at hl 4 rfl) ?_
        refine lv_iload hx hb dX9_readSum_75 (lv_at hl 0 rfl) ?_
        refine lv_iconst (v := 2) hx hb dX9_readSum_77 (by decide) ?_
        replace h := ob h; obtain ⟨w_10, hw_10, h⟩ := h
        replace h := ob h; obtain ⟨z_9, hv_9, h⟩ := h
        refine ccI (As := [.int v_1, .int u1, .int u2, .int v_3, .int 2]) hx hb hml hts hown hK hP hD hS hA hZ (X := 10) (by decide) rfl (ckE_some hw_10) (sc_X9_complete l dC dI cB cI cJ cZ cS cO b K V fz F cs_7 u0 v_1 u1 u2 v_3 2 z_9.1 z_9.2 hv_9) (cw_X9_X9_complete hts (fr := 1) (by show 1 + 1 ≤ n + 1 + 3; omega) (by show 8 + (6 + 11) + 60 * (1) ≤ 60 * (n + 1 + 3); omega)) rfl hl.1 (Nat.le_of_ble_eq_true rfl) ⟨Nat.zero_le _, Nat.zero_le _⟩ dX9_readSum_78 (fun H locs hP hD hS => ?_)
        refine lv_pop hx hb dX9_readSum_81 rfl ?_
        refine lv_iinc (v := u3 + 1) (lv' := [(3, .int (u3 + 1)), (5, .int v_3), (4, .int v_1), (0, .ref (b + u0)), (1, .int u1), (2, .int u2)]) hx hb dX9_readSum_82 hl (k := 5) rfl rfl (by decide) rfl (fun ls hl => ?_)
        refine lv_goto (tgt := 19) hx hb dX9_readSum_85 (by decide) ?_
        exact ih_19 z_9.1 u0 u1 u2 (u3 + 1) h _ _ _ hP hD hS (lv_sub hl [3, 4, 5, 0] rfl)
      intro cs1 u0 u1 u2 u3 h H locs ls hP hD hS hl
      rw [c_X9_readSum_L19] at h
      refine lv_iload_n hx hb dX9_readSum_19 rfl (lv_at hl 3 rfl) ?_
      refine lv_sipush (v := 2000) hx hb dX9_readSum_20 (by decide) ?_
      refine lv_icmp_ge (tgt := 88) hx hb dX9_readSum_23 (by decide) (fun c_11 => ?_) (fun c_11 => ?_)
      · skip
        replace h := (if_pos c_11).symm.trans h
        exact B_88 cs1 h _ _ _ hP hD hS (lv_sub hl [] rfl)
      · skip
        replace h := (if_neg c_11).symm.trans h
        refine lv_aload_n hx hb dX9_readSum_26 rfl (lv_at hl 0 rfl) ?_
        replace h := ob h; obtain ⟨w_13, hw_13, h⟩ := h
        replace h := ob h; obtain ⟨v_12, hv_12, h⟩ := h
        refine ccI (As := []) hx hb hml hts hown hK hP hD hS hA hZ (X := 10) (by decide) rfl (ckE_some hw_13) (sc_X9_kind l dC dI cB cI cJ cZ cS cO b K V fz F cs1 u0 v_12 hv_12) (cw_X9_X9_kind hts (fr := 0) (by show 0 + 1 ≤ n + 1 + 3; omega) (by show 8 + (1 + 11) + 60 * (0) ≤ 60 * (n + 1 + 3); omega)) rfl hl.1 (Nat.le_of_ble_eq_true rfl) ⟨Nat.zero_le _, Nat.zero_le _⟩ dX9_readSum_27 (fun H locs hP hD hS => ?_)
        refine lv_bipush (v := 45) hx hb dX9_readSum_30 (by decide) ?_
        refine lv_icmp_eq (tgt := 44) hx hb dX9_readSum_32 (by decide) (fun c_14 => ?_) (fun c_14 => ?_)
        · skip
          replace h := (if_pos c_14).symm.trans h
          exact B_44 cs1 u0 u1 u2 u3 h _ _ _ hP hD hS (lv_sub hl [0, 1, 2, 3] rfl)
        · skip
          replace h := (if_neg c_14).symm.trans h
          refine lv_aload_n hx hb dX9_readSum_35 rfl (lv_at hl 0 rfl) ?_
          replace h := ob h; obtain ⟨w_16, hw_16, h⟩ := h
          replace h := ob h; obtain ⟨v_15, hv_15, h⟩ := h
          refine ccI (As := []) hx hb hml hts hown hK hP hD hS hA hZ (X := 10) (by decide) rfl (ckE_some hw_16) (sc_X9_kind l dC dI cB cI cJ cZ cS cO b K V fz F cs1 u0 v_15 hv_15) (cw_X9_X9_kind hts (fr := 0) (by show 0 + 1 ≤ n + 1 + 3; omega) (by show 8 + (1 + 11) + 60 * (0) ≤ 60 * (n + 1 + 3); omega)) rfl hl.1 (Nat.le_of_ble_eq_true rfl) ⟨Nat.zero_le _, Nat.zero_le _⟩ dX9_readSum_36 (fun H locs hP hD hS => ?_)
          refine lv_bipush (v := 46) hx hb dX9_readSum_39 (by decide) ?_
          refine lv_icmp_ne (tgt := 88) hx hb dX9_readSum_41 (by decide) (fun c_17 => ?_) (fun c_17 => ?_)
          · skip
            replace h := (if_neg c_17).symm.trans h
            exact B_88 cs1 h _ _ _ hP hD hS (lv_sub hl [] rfl)
          · skip
            replace h := (if_pos c_17).symm.trans h
            exact B_44 cs1 u0 u1 u2 u3 h _ _ _ hP hD hS (lv_sub hl [0, 1, 2, 3] rfl)
  have h := hf
  unfold cb_X9_readSum at h
  refine lv_aload_n hx hb dX9_readSum_0 rfl (lv_at hl 0 rfl) ?_
  replace h := ob h; obtain ⟨v_18, hv_18, h⟩ := h
  refine fg_X9_26 hx hb hts hown hK hP hv_18 dX9_readSum_1 ?_
  replace h := ob h; obtain ⟨i_19, hi_19, h⟩ := h
  subst hi_19
  replace h := ob h; obtain ⟨v_20, hv_20, h⟩ := h
  refine fg_X9_296 hx hb hts hown hK hP hv_20 dX9_readSum_4 ?_
  refine lv_istore_n (lv' := [(1, .int v_20), (0, .ref (b + x0))]) hx hb dX9_readSum_7 rfl hl (by decide) rfl (fun ls hl => ?_)
  refine lv_aload_n hx hb dX9_readSum_8 rfl (lv_at hl 1 rfl) ?_
  replace h := ob h; obtain ⟨w_22, hw_22, h⟩ := h
  replace h := ob h; obtain ⟨v_21, hv_21, h⟩ := h
  refine ccI (As := []) hx hb hml hts hown hK hP hD hS hA hZ (X := 10) (by decide) rfl (ckE_some hw_22) (sc_X9_here l dC dI cB cI cJ cZ cS cO b K V fz F cs x0 v_21 hv_21) (cw_X9_X9_here hts (fr := 0) (by show 0 + 1 ≤ n + 1 + 3; omega) (by show 8 + (1 + 11) + 60 * (0) ≤ 60 * (n + 1 + 3); omega)) rfl hl.1 (Nat.le_of_ble_eq_true rfl) ⟨Nat.zero_le _, Nat.zero_le _⟩ dX9_readSum_9 (fun H locs hP hD hS => ?_)
  refine lv_istore_n (lv' := [(2, .int v_21), (1, .int v_20), (0, .ref (b + x0))]) hx hb dX9_readSum_12 rfl hl (by decide) rfl (fun ls hl => ?_)
  refine lv_aload_n hx hb dX9_readSum_13 rfl (lv_at hl 2 rfl) ?_
  replace h := ob h; obtain ⟨w_24, hw_24, h⟩ := h
  replace h := ob h; obtain ⟨cs_23, hv_23, h⟩ := h
  refine ccV (As := []) hx hb hml hts hown hK hP hD hS hA hZ (X := 10) (by decide) rfl (ckE_some hw_24) (hT_X9_readPart cs x0 cs_23 hv_23) (cw_X9_X9_readPart hts (fr := n + 3) (by show n + 3 + 1 ≤ n + 1 + 3; omega) (by show 8 + (6 + 11) + 60 * (n + 3) ≤ 60 * (n + 1 + 3); omega)) rfl hl.1 (Nat.le_of_ble_eq_true rfl) ⟨Nat.zero_le _, Nat.zero_le _⟩ dX9_readSum_14 (fun H locs hP hD hS => ?_)
  refine lv_iconst (v := 0) hx hb dX9_readSum_17 (by decide) ?_
  refine lv_istore_n (lv' := [(3, .int 0), (2, .int v_21), (1, .int v_20), (0, .ref (b + x0))]) hx hb dX9_readSum_18 rfl hl (by decide) rfl (fun ls hl => ?_)
  exact L_19 F cs_23 x0 v_20 v_21 0 h _ _ _ hP hD hS (lv_sub hl [3, 2, 1, 0] rfl)
set_option maxHeartbeats 4000000 in
set_option maxRecDepth 100000 in
theorem sbc_X9_readPart (l : Launch) (dC : Nat → ClassId) (dI : Nat → Nat → Nat) (cB cI cJ cZ cS cO : ClassId) (b : Nat) (K V : Nat → Nat) (fz : Value) (F : Nat) (n : Nat) (T : TC_X9_readExpr) (hT_X9_readExpr : ∀ (cs : CS) (x0 : Nat) (cs9 : CS) (r9 : Int32), T.1 cs x0 = some (cs9, r9) → ocI l dC dI cB cI cJ cZ cS cO b K V fz yX9_readExpr (wsOf yX9_readExpr cX9_readExpr 5 (some .int)) (n + 3) [.ref (b + x0)] cs cs9 r9) (hT_X9_readConjunction : ∀ (cs : CS) (x0 : Nat) (cs9 : CS), T.2.1 cs x0 = some cs9 → ocV l dC dI cB cI cJ cZ cS cO b K V fz yX9_readConjunction (wsOf yX9_readConjunction cX9_readConjunction 5 none) (n + 3) [.ref (b + x0)] cs cs9) (hT_X9_readNegation : ∀ (cs : CS) (x0 : Nat) (cs9 : CS), T.2.2.1 cs x0 = some cs9 → ocV l dC dI cB cI cJ cZ cS cO b K V fz yX9_readNegation (wsOf yX9_readNegation cX9_readNegation 3 none) (n + 3) [.ref (b + x0)] cs cs9) (hT_X9_readTest : ∀ (cs : CS) (x0 : Nat) (cs9 : CS), T.2.2.2.1 cs x0 = some cs9 → ocV l dC dI cB cI cJ cZ cS cO b K V fz yX9_readTest (wsOf yX9_readTest cX9_readTest 6 none) (n + 3) [.ref (b + x0)] cs cs9) (hT_X9_readSum : ∀ (cs : CS) (x0 : Nat) (cs9 : CS), T.2.2.2.2.1 cs x0 = some cs9 → ocV l dC dI cB cI cJ cZ cS cO b K V fz yX9_readSum (wsOf yX9_readSum cX9_readSum 6 none) (n + 3) [.ref (b + x0)] cs cs9) (hT_X9_readPart : ∀ (cs : CS) (x0 : Nat) (cs9 : CS), T.2.2.2.2.2.1 cs x0 = some cs9 → ocV l dC dI cB cI cJ cZ cS cO b K V fz yX9_readPart (wsOf yX9_readPart cX9_readPart 6 none) (n + 3) [.ref (b + x0)] cs cs9) (hT_X9_readSign : ∀ (cs : CS) (x0 : Nat) (cs9 : CS), T.2.2.2.2.2.2.1 cs x0 = some cs9 → ocV l dC dI cB cI cJ cZ cS cO b K V fz yX9_readSign (wsOf yX9_readSign cX9_readSign 3 none) (n + 3) [.ref (b + x0)] cs cs9) (hT_X9_readOne : ∀ (cs : CS) (x0 : Nat) (cs9 : CS), T.2.2.2.2.2.2.2.1 cs x0 = some cs9 → ocV l dC dI cB cI cJ cZ cS cO b K V fz yX9_readOne (wsOf yX9_readOne cX9_readOne 1 none) (n + 3) [.ref (b + x0)] cs cs9) (hT_X9_readCase : ∀ (cs : CS) (x0 : Nat) (cs9 : CS), T.2.2.2.2.2.2.2.2.1 cs x0 = some cs9 → ocV l dC dI cB cI cJ cZ cS cO b K V fz yX9_readCase (wsOf yX9_readCase cX9_readCase 3 none) (n + 3) [.ref (b + x0)] cs cs9) (hT_X9_readSpan : ∀ (cs : CS) (x0 : Nat) (cs9 : CS), T.2.2.2.2.2.2.2.2.2.1 cs x0 = some cs9 → ocV l dC dI cB cI cJ cZ cS cO b K V fz yX9_readSpan (wsOf yX9_readSpan cX9_readSpan 3 none) (n + 3) [.ref (b + x0)] cs cs9) (hT_X9_readAggregate : ∀ (cs : CS) (x0 : Nat) (cs9 : CS), T.2.2.2.2.2.2.2.2.2.2.1 cs x0 = some cs9 → ocV l dC dI cB cI cJ cZ cS cO b K V fz yX9_readAggregate (wsOf yX9_readAggregate cX9_readAggregate 7 none) (n + 3) [.ref (b + x0)] cs cs9) (hT_X9_readList : ∀ (cs : CS) (x0 : Nat) (x1 : Int32) (x2 : Int32) (x3 : Int32) (x4 : Int32) (cs9 : CS), T.2.2.2.2.2.2.2.2.2.2.2 cs x0 x1 x2 x3 x4 = some cs9 → ocV l dC dI cB cI cJ cZ cS cO b K V fz yX9_readList (wsOf yX9_readList cX9_readList 8 none) (n + 3) [.ref (b + x0), .int x1, .int x2, .int x3, .int x4] cs cs9) (cs : CS) (x0 : Nat) (cs9 : CS) (hf : cb_X9_readPart F T cs x0 = some cs9) : ocV l dC dI cB cI cJ cZ cS cO b K V fz yX9_readPart (wsOf yX9_readPart cX9_readPart 6 none) (n + 1 + 3) [.ref (b + x0)] cs cs9 := by
  intro sz
  refine Met.ofW (cc := cX9_readPart) (maxL := 6) (ret := none) (by decide) rfl ?_
  intro p e s m args below meth c s₁ B hml hv
  obtain ⟨rfl, hsz, hP, hK, hD0, hZ⟩ := hv
  have hx := B.exec
  have hb := B.bytes
  have hr := B.returns
  have hts := atoms_spec (ws := (wsOf yX9_readPart cX9_readPart 6 none)) B.pre
  have hown : s.vm.findClass RX9 = some m.cls := findClass_of_methodNamed B.named
  have hlocks := B.notSynchronized
  subst hsz
  have hD := hD0.self (sz := s.heap.size)
  generalize hAe : va_A (cW cB cI cJ cZ cS cO b cs) s.heap.size = A at hD hZ ⊢
  have hA : ∀ q : Nat, s.heap.size ≤ q → A q := fun q h => by rw [← hAe]; exact Or.inr h
  have hS : va_S A s.heap s.heap [] := va_S.rf
  have hl := lv_entry ([.ref (b + x0)]) (n := 6) (Nat.le_of_ble_eq_true rfl)
  rw [lg_entry_eq]
  generalize (lg_sl ([.ref (b + x0)]) ++ List.replicate (6 - (lg_sl ([.ref (b + x0)])).length) Slot.unset).toArray = ls at hl ⊢
  have hl : lv_has ls 6 [(0, .ref (b + x0))] := hl
  have B_97 : ∀ (cs1 : CS) , c_X9_readPart_b97 F T cs1 = some cs9 → ∀ (H : Heap) (locs : List Loc) (ls : Array Slot), va_P (dC, dI) vwCl (cW cB cI cJ cZ cS cO b cs1) H → va_D A (cW cB cI cJ cZ cS cO b cs1) → va_S A s.heap H locs → lv_has ls 6 [] → W p l e (headSpec (wsOf yX9_readPart cX9_readPart 6 none) ({ frames := n + 1 + 3, cells := 0, slots := 0, locals := 60 * (n + 1 + 3) } : Room)).room s m ([.ref (b + x0)] : List Value).toArray below meth c H locs 0 0 (MQ below (va_Qv (fun (_ : Unit) => True) (fun _ t_ => va_P (dC, dI) vwCl (cW cB cI cJ cZ cS cO b cs9) t_.heap ∧ va_D A (cW cB cI cJ cZ cS cO b cs9)) A) ([.ref (b + x0)] : List Value).toArray s 0 0 A) (F0 m 97 ls []) := by
    intro cs1  h H locs ls hP hD hS hl
    unfold c_X9_readPart_b97 at h
    have e1 := Option.some.inj h
    rw [e1] at hP hD
    exact W.vret hx hb hr (fun t_ ht hW => ⟨⟨(), rfl, trivial, by rw [ht]; exact hP, hD⟩, hS.F ht⟩) hS.2.2 dX9_readPart_97
  have L_19 : ∀ (lf_19 : Nat), ∀ (cs1 : CS) (u0 : Nat) (u1 : Int32) (u2 : Int32) (u3 : Int32), c_X9_readPart_L19 F T lf_19 cs1 u0 u1 u2 u3 = some cs9 → ∀ (H : Heap) (locs : List Loc) (ls : Array Slot), va_P (dC, dI) vwCl (cW cB cI cJ cZ cS cO b cs1) H → va_D A (cW cB cI cJ cZ cS cO b cs1) → va_S A s.heap H locs → lv_has ls 6 [(0, .ref (b + u0)), (1, .int u1), (2, .int u2), (3, .int u3)] → W p l e (headSpec (wsOf yX9_readPart cX9_readPart 6 none) ({ frames := n + 1 + 3, cells := 0, slots := 0, locals := 60 * (n + 1 + 3) } : Room)).room s m ([.ref (b + x0)] : List Value).toArray below meth c H locs 0 0 (MQ below (va_Qv (fun (_ : Unit) => True) (fun _ t_ => va_P (dC, dI) vwCl (cW cB cI cJ cZ cS cO b cs9) t_.heap ∧ va_D A (cW cB cI cJ cZ cS cO b cs9)) A) ([.ref (b + x0)] : List Value).toArray s 0 0 A) (F0 m 19 ls []) := by
    intro lf_19
    induction lf_19 with
    | zero => intro cs1 u0 u1 u2 u3 h; cases (show (none : Option CS) = _ from h)
    | succ lf_19 ih_19 =>
      have B_53 : ∀ (cs1 : CS) (u0 : Nat) (u1 : Int32) (u2 : Int32) (u3 : Int32), c_X9_readPart_b53 F T (c_X9_readPart_L19 F T lf_19) cs1 u0 u1 u2 u3 = some cs9 → ∀ (H : Heap) (locs : List Loc) (ls : Array Slot), va_P (dC, dI) vwCl (cW cB cI cJ cZ cS cO b cs1) H → va_D A (cW cB cI cJ cZ cS cO b cs1) → va_S A s.heap H locs → lv_has ls 6 [(0, .ref (b + u0)), (1, .int u1), (2, .int u2), (3, .int u3)] → W p l e (headSpec (wsOf yX9_readPart cX9_readPart 6 none) ({ frames := n + 1 + 3, cells := 0, slots := 0, locals := 60 * (n + 1 + 3) } : Room)).room s m ([.ref (b + x0)] : List Value).toArray below meth c H locs 0 0 (MQ below (va_Qv (fun (_ : Unit) => True) (fun _ t_ => va_P (dC, dI) vwCl (cW cB cI cJ cZ cS cO b cs9) t_.heap ∧ va_D A (cW cB cI cJ cZ cS cO b cs9)) A) ([.ref (b + x0)] : List Value).toArray s 0 0 A) (F0 m 53 ls []) := by
        intro cs1 u0 u1 u2 u3 h H locs ls hP hD hS hl
        unfold c_X9_readPart_b53 at h
        refine lv_aload_n hx hb dX9_readPart_53 rfl (lv_at hl 0 rfl) ?_
        replace h := ob h; obtain ⟨w_2, hw_2, h⟩ := h
        replace h := ob h; obtain ⟨v_1, hv_1, h⟩ := h
        refine ccI (As := []) hx hb hml hts hown hK hP hD hS hA hZ (X := 10) (by decide) rfl (ckE_some hw_2) (sc_X9_kind l dC dI cB cI cJ cZ cS cO b K V fz F cs1 u0 v_1 hv_1) (cw_X9_X9_kind hts (fr := 0) (by show 0 + 1 ≤ n + 1 + 3; omega) (by show 8 + (1 + 11) + 60 * (0) ≤ 60 * (n + 1 + 3); omega)) rfl hl.1 (Nat.le_of_ble_eq_true rfl) ⟨Nat.zero_le _, Nat.zero_le _⟩ dX9_readPart_54 (fun H locs hP hD hS => ?_)
        refine lv_istore (lv' := [(4, .int v_1), (0, .ref (b + u0)), (1, .int u1), (2, .int u2), (3, .int u3)]) hx hb dX9_readPart_57 hl (by decide) rfl (fun ls hl => ?_)
        refine lv_aload_n hx hb dX9_readPart_59 rfl (lv_at hl 1 rfl) ?_
        replace h := ob h; obtain ⟨w_4, hw_4, h⟩ := h
        replace h := ob h; obtain ⟨v_3, hv_3, h⟩ := h
        refine ccI (As := []) hx hb hml hts hown hK hP hD hS hA hZ (X := 10) (by decide) rfl (ckE_some hw_4) (sc_X9_here l dC dI cB cI cJ cZ cS cO b K V fz F cs1 u0 v_3 hv_3) (cw_X9_X9_here hts (fr := 0) (by show 0 + 1 ≤ n + 1 + 3; omega) (by show 8 + (1 + 11) + 60 * (0) ≤ 60 * (n + 1 + 3); omega)) rfl hl.1 (Nat.le_of_ble_eq_true rfl) ⟨Nat.zero_le _, Nat.zero_le _⟩ dX9_readPart_60 (fun H locs hP hD hS => ?_)
        refine lv_istore (lv' := [(5, .int v_3), (4, .int v_1), (0, .ref (b + u0)), (1, .int u1), (2, .int u2), (3, .int u3)]) hx hb dX9_readPart_63 hl (by decide) rfl (fun ls hl => ?_)
        refine lv_aload_n hx hb dX9_readPart_65 rfl (lv_at hl 2 rfl) ?_
        refine lv_dup hx hb dX9_readPart_66 rfl ?_
        replace h := ob h; obtain ⟨v_5, hv_5, h⟩ := h
        refine fg_X9_99 hx hb hts hown hK hP hv_5 dX9_readPart_67 ?_
        refine lv_iconst (v := 1) hx hb dX9_readPart_70 (by decide) ?_
        refine lv_iadd hx hb dX9_readPart_71 ?_
        replace h := ob h; obtain ⟨cs_6, hv_6, h⟩ := h
        refine fp_X9_99 hx hb hts hown hK hP hD hS hv_6 dX9_readPart_72 (fun H locs hP hD hS => ?_)
        refine lv_aload_n hx hb dX9_readPart_75 rfl (lv_at hl 2 rfl) ?_
        replace h := ob h; obtain ⟨w_8, hw_8, h⟩ := h
        replace h := ob h; obtain ⟨cs_7, hv_7, h⟩ := h
        refine ccV (As := []) hx hb hml hts hown hK hP hD hS hA hZ (X := 10) (by decide) rfl (ckE_some hw_8) (hT_X9_readSign cs_6 u0 cs_7 hv_7) (cw_X9_X9_readSign hts (fr := n + 3) (by show n + 3 + 1 ≤ n + 1 + 3; omega) (by show 8 + (3 + 11) + 60 * (n + 3) ≤ 60 * (n + 1 + 3); omega)) rfl hl.1 (Nat.le_of_ble_eq_true rfl) ⟨Nat.zero_le _, Nat.zero_le _⟩ dX9_readPart_76 (fun H locs hP hD hS => ?_)
        refine lv_aload_n hx hb dX9_readPart_79 rfl (lv_at hl 2 rfl) ?_
        refine lv_iload hx hb dX9_readPart_80 (lv_at hl 1 rfl) ?_
        refine lv_iload_n hx hb dX9_readPart_82 rfl (lv_at hl 3 rfl) ?_
        refine lv_iload_n hx hb dX9_readPart_83 rfl (lv_at hl 4 rfl) ?_
        refine lv_iload hx hb dX9_readPart_84 (lv_at hl 0 rfl) ?_
        refine lv_iconst (v := 2) hx hb dX9_readPart_86 (by decide) ?_
        replace h := ob h; obtain ⟨w_10, hw_10, h⟩ := h
        replace h := ob h; obtain ⟨z_9, hv_9, h⟩ := h
        refine ccI (As := [.int v_1, .int u1, .int u2, .int v_3, .int 2]) hx hb hml hts hown hK hP hD hS hA hZ (X := 10) (by decide) rfl (ckE_some hw_10) (sc_X9_complete l dC dI cB cI cJ cZ cS cO b K V fz F cs_7 u0 v_1 u1 u2 v_3 2 z_9.1 z_9.2 hv_9) (cw_X9_X9_complete hts (fr := 1) (by show 1 + 1 ≤ n + 1 + 3; omega) (by show 8 + (6 + 11) + 60 * (1) ≤ 60 * (n + 1 + 3); omega)) rfl hl.1 (Nat.le_of_ble_eq_true rfl) ⟨Nat.zero_le _, Nat.zero_le _⟩ dX9_readPart_87 (fun H locs hP hD hS => ?_)
        refine lv_pop hx hb dX9_readPart_90 rfl ?_
        refine lv_iinc (v := u3 + 1) (lv' := [(3, .int (u3 + 1)), (5, .int v_3), (4, .int v_1), (0, .ref (b + u0)), (1, .int u1), (2, .int u2)]) hx hb dX9_readPart_91 hl (k := 5) rfl rfl (by decide) rfl (fun ls hl => ?_)
        refine lv_goto (tgt := 19) hx hb dX9_readPart_94 (by decide) ?_
        exact ih_19 z_9.1 u0 u1 u2 (u3 + 1) h _ _ _ hP hD hS (lv_sub hl [3, 4, 5, 0] rfl)
      intro cs1 u0 u1 u2 u3 h H locs ls hP hD hS hl
      rw [c_X9_readPart_L19] at h
      refine lv_iload_n hx hb dX9_readPart_19 rfl (lv_at hl 3 rfl) ?_
      refine lv_sipush (v := 2000) hx hb dX9_readPart_20 (by decide) ?_
      refine lv_icmp_ge (tgt := 97) hx hb dX9_readPart_23 (by decide) (fun c_11 => ?_) (fun c_11 => ?_)
      · skip
        replace h := (if_pos c_11).symm.trans h
        exact B_97 cs1 h _ _ _ hP hD hS (lv_sub hl [] rfl)
      · skip
        replace h := (if_neg c_11).symm.trans h
        refine lv_aload_n hx hb dX9_readPart_26 rfl (lv_at hl 0 rfl) ?_
        replace h := ob h; obtain ⟨w_13, hw_13, h⟩ := h
        replace h := ob h; obtain ⟨v_12, hv_12, h⟩ := h
        refine ccI (As := []) hx hb hml hts hown hK hP hD hS hA hZ (X := 10) (by decide) rfl (ckE_some hw_13) (sc_X9_kind l dC dI cB cI cJ cZ cS cO b K V fz F cs1 u0 v_12 hv_12) (cw_X9_X9_kind hts (fr := 0) (by show 0 + 1 ≤ n + 1 + 3; omega) (by show 8 + (1 + 11) + 60 * (0) ≤ 60 * (n + 1 + 3); omega)) rfl hl.1 (Nat.le_of_ble_eq_true rfl) ⟨Nat.zero_le _, Nat.zero_le _⟩ dX9_readPart_27 (fun H locs hP hD hS => ?_)
        refine lv_bipush (v := 47) hx hb dX9_readPart_30 (by decide) ?_
        refine lv_icmp_eq (tgt := 53) hx hb dX9_readPart_32 (by decide) (fun c_14 => ?_) (fun c_14 => ?_)
        · skip
          replace h := (if_pos c_14).symm.trans h
          exact B_53 cs1 u0 u1 u2 u3 h _ _ _ hP hD hS (lv_sub hl [0, 1, 2, 3] rfl)
        · skip
          replace h := (if_neg c_14).symm.trans h
          refine lv_aload_n hx hb dX9_readPart_35 rfl (lv_at hl 0 rfl) ?_
          replace h := ob h; obtain ⟨w_16, hw_16, h⟩ := h
          replace h := ob h; obtain ⟨v_15, hv_15, h⟩ := h
          refine ccI (As := []) hx hb hml hts hown hK hP hD hS hA hZ (X := 10) (by decide) rfl (ckE_some hw_16) (sc_X9_kind l dC dI cB cI cJ cZ cS cO b K V fz F cs1 u0 v_15 hv_15) (cw_X9_X9_kind hts (fr := 0) (by show 0 + 1 ≤ n + 1 + 3; omega) (by show 8 + (1 + 11) + 60 * (0) ≤ 60 * (n + 1 + 3); omega)) rfl hl.1 (Nat.le_of_ble_eq_true rfl) ⟨Nat.zero_le _, Nat.zero_le _⟩ dX9_readPart_36 (fun H locs hP hD hS => ?_)
          refine lv_bipush (v := 48) hx hb dX9_readPart_39 (by decide) ?_
          refine lv_icmp_eq (tgt := 53) hx hb dX9_readPart_41 (by decide) (fun c_17 => ?_) (fun c_17 => ?_)
          · skip
            replace h := (if_pos c_17).symm.trans h
            exact B_53 cs1 u0 u1 u2 u3 h _ _ _ hP hD hS (lv_sub hl [0, 1, 2, 3] rfl)
          · skip
            replace h := (if_neg c_17).symm.trans h
            refine lv_aload_n hx hb dX9_readPart_44 rfl (lv_at hl 0 rfl) ?_
            replace h := ob h; obtain ⟨w_19, hw_19, h⟩ := h
            replace h := ob h; obtain ⟨v_18, hv_18, h⟩ := h
            refine ccI (As := []) hx hb hml hts hown hK hP hD hS hA hZ (X := 10) (by decide) rfl (ckE_some hw_19) (sc_X9_kind l dC dI cB cI cJ cZ cS cO b K V fz F cs1 u0 v_18 hv_18) (cw_X9_X9_kind hts (fr := 0) (by show 0 + 1 ≤ n + 1 + 3; omega) (by show 8 + (1 + 11) + 60 * (0) ≤ 60 * (n + 1 + 3); omega)) rfl hl.1 (Nat.le_of_ble_eq_true rfl) ⟨Nat.zero_le _, Nat.zero_le _⟩ dX9_readPart_45 (fun H locs hP hD hS => ?_)
            refine lv_bipush (v := 49) hx hb dX9_readPart_48 (by decide) ?_
            refine lv_icmp_ne (tgt := 97) hx hb dX9_readPart_50 (by decide) (fun c_20 => ?_) (fun c_20 => ?_)
            · skip
              replace h := (if_neg c_20).symm.trans h
              exact B_97 cs1 h _ _ _ hP hD hS (lv_sub hl [] rfl)
            · skip
              replace h := (if_pos c_20).symm.trans h
              exact B_53 cs1 u0 u1 u2 u3 h _ _ _ hP hD hS (lv_sub hl [0, 1, 2, 3] rfl)
  have h := hf
  unfold cb_X9_readPart at h
  refine lv_aload_n hx hb dX9_readPart_0 rfl (lv_at hl 0 rfl) ?_
  replace h := ob h; obtain ⟨v_21, hv_21, h⟩ := h
  refine fg_X9_26 hx hb hts hown hK hP hv_21 dX9_readPart_1 ?_
  replace h := ob h; obtain ⟨i_22, hi_22, h⟩ := h
  subst hi_22
  replace h := ob h; obtain ⟨v_23, hv_23, h⟩ := h
  refine fg_X9_296 hx hb hts hown hK hP hv_23 dX9_readPart_4 ?_
  refine lv_istore_n (lv' := [(1, .int v_23), (0, .ref (b + x0))]) hx hb dX9_readPart_7 rfl hl (by decide) rfl (fun ls hl => ?_)
  refine lv_aload_n hx hb dX9_readPart_8 rfl (lv_at hl 1 rfl) ?_
  replace h := ob h; obtain ⟨w_25, hw_25, h⟩ := h
  replace h := ob h; obtain ⟨v_24, hv_24, h⟩ := h
  refine ccI (As := []) hx hb hml hts hown hK hP hD hS hA hZ (X := 10) (by decide) rfl (ckE_some hw_25) (sc_X9_here l dC dI cB cI cJ cZ cS cO b K V fz F cs x0 v_24 hv_24) (cw_X9_X9_here hts (fr := 0) (by show 0 + 1 ≤ n + 1 + 3; omega) (by show 8 + (1 + 11) + 60 * (0) ≤ 60 * (n + 1 + 3); omega)) rfl hl.1 (Nat.le_of_ble_eq_true rfl) ⟨Nat.zero_le _, Nat.zero_le _⟩ dX9_readPart_9 (fun H locs hP hD hS => ?_)
  refine lv_istore_n (lv' := [(2, .int v_24), (1, .int v_23), (0, .ref (b + x0))]) hx hb dX9_readPart_12 rfl hl (by decide) rfl (fun ls hl => ?_)
  refine lv_aload_n hx hb dX9_readPart_13 rfl (lv_at hl 2 rfl) ?_
  replace h := ob h; obtain ⟨w_27, hw_27, h⟩ := h
  replace h := ob h; obtain ⟨cs_26, hv_26, h⟩ := h
  refine ccV (As := []) hx hb hml hts hown hK hP hD hS hA hZ (X := 10) (by decide) rfl (ckE_some hw_27) (hT_X9_readSign cs x0 cs_26 hv_26) (cw_X9_X9_readSign hts (fr := n + 3) (by show n + 3 + 1 ≤ n + 1 + 3; omega) (by show 8 + (3 + 11) + 60 * (n + 3) ≤ 60 * (n + 1 + 3); omega)) rfl hl.1 (Nat.le_of_ble_eq_true rfl) ⟨Nat.zero_le _, Nat.zero_le _⟩ dX9_readPart_14 (fun H locs hP hD hS => ?_)
  refine lv_iconst (v := 0) hx hb dX9_readPart_17 (by decide) ?_
  refine lv_istore_n (lv' := [(3, .int 0), (2, .int v_24), (1, .int v_23), (0, .ref (b + x0))]) hx hb dX9_readPart_18 rfl hl (by decide) rfl (fun ls hl => ?_)
  exact L_19 F cs_26 x0 v_23 v_24 0 h _ _ _ hP hD hS (lv_sub hl [3, 2, 1, 0] rfl)
set_option maxHeartbeats 4000000 in
set_option maxRecDepth 100000 in
theorem sbc_X9_readSign (l : Launch) (dC : Nat → ClassId) (dI : Nat → Nat → Nat) (cB cI cJ cZ cS cO : ClassId) (b : Nat) (K V : Nat → Nat) (fz : Value) (F : Nat) (n : Nat) (T : TC_X9_readExpr) (hT_X9_readExpr : ∀ (cs : CS) (x0 : Nat) (cs9 : CS) (r9 : Int32), T.1 cs x0 = some (cs9, r9) → ocI l dC dI cB cI cJ cZ cS cO b K V fz yX9_readExpr (wsOf yX9_readExpr cX9_readExpr 5 (some .int)) (n + 3) [.ref (b + x0)] cs cs9 r9) (hT_X9_readConjunction : ∀ (cs : CS) (x0 : Nat) (cs9 : CS), T.2.1 cs x0 = some cs9 → ocV l dC dI cB cI cJ cZ cS cO b K V fz yX9_readConjunction (wsOf yX9_readConjunction cX9_readConjunction 5 none) (n + 3) [.ref (b + x0)] cs cs9) (hT_X9_readNegation : ∀ (cs : CS) (x0 : Nat) (cs9 : CS), T.2.2.1 cs x0 = some cs9 → ocV l dC dI cB cI cJ cZ cS cO b K V fz yX9_readNegation (wsOf yX9_readNegation cX9_readNegation 3 none) (n + 3) [.ref (b + x0)] cs cs9) (hT_X9_readTest : ∀ (cs : CS) (x0 : Nat) (cs9 : CS), T.2.2.2.1 cs x0 = some cs9 → ocV l dC dI cB cI cJ cZ cS cO b K V fz yX9_readTest (wsOf yX9_readTest cX9_readTest 6 none) (n + 3) [.ref (b + x0)] cs cs9) (hT_X9_readSum : ∀ (cs : CS) (x0 : Nat) (cs9 : CS), T.2.2.2.2.1 cs x0 = some cs9 → ocV l dC dI cB cI cJ cZ cS cO b K V fz yX9_readSum (wsOf yX9_readSum cX9_readSum 6 none) (n + 3) [.ref (b + x0)] cs cs9) (hT_X9_readPart : ∀ (cs : CS) (x0 : Nat) (cs9 : CS), T.2.2.2.2.2.1 cs x0 = some cs9 → ocV l dC dI cB cI cJ cZ cS cO b K V fz yX9_readPart (wsOf yX9_readPart cX9_readPart 6 none) (n + 3) [.ref (b + x0)] cs cs9) (hT_X9_readSign : ∀ (cs : CS) (x0 : Nat) (cs9 : CS), T.2.2.2.2.2.2.1 cs x0 = some cs9 → ocV l dC dI cB cI cJ cZ cS cO b K V fz yX9_readSign (wsOf yX9_readSign cX9_readSign 3 none) (n + 3) [.ref (b + x0)] cs cs9) (hT_X9_readOne : ∀ (cs : CS) (x0 : Nat) (cs9 : CS), T.2.2.2.2.2.2.2.1 cs x0 = some cs9 → ocV l dC dI cB cI cJ cZ cS cO b K V fz yX9_readOne (wsOf yX9_readOne cX9_readOne 1 none) (n + 3) [.ref (b + x0)] cs cs9) (hT_X9_readCase : ∀ (cs : CS) (x0 : Nat) (cs9 : CS), T.2.2.2.2.2.2.2.2.1 cs x0 = some cs9 → ocV l dC dI cB cI cJ cZ cS cO b K V fz yX9_readCase (wsOf yX9_readCase cX9_readCase 3 none) (n + 3) [.ref (b + x0)] cs cs9) (hT_X9_readSpan : ∀ (cs : CS) (x0 : Nat) (cs9 : CS), T.2.2.2.2.2.2.2.2.2.1 cs x0 = some cs9 → ocV l dC dI cB cI cJ cZ cS cO b K V fz yX9_readSpan (wsOf yX9_readSpan cX9_readSpan 3 none) (n + 3) [.ref (b + x0)] cs cs9) (hT_X9_readAggregate : ∀ (cs : CS) (x0 : Nat) (cs9 : CS), T.2.2.2.2.2.2.2.2.2.2.1 cs x0 = some cs9 → ocV l dC dI cB cI cJ cZ cS cO b K V fz yX9_readAggregate (wsOf yX9_readAggregate cX9_readAggregate 7 none) (n + 3) [.ref (b + x0)] cs cs9) (hT_X9_readList : ∀ (cs : CS) (x0 : Nat) (x1 : Int32) (x2 : Int32) (x3 : Int32) (x4 : Int32) (cs9 : CS), T.2.2.2.2.2.2.2.2.2.2.2 cs x0 x1 x2 x3 x4 = some cs9 → ocV l dC dI cB cI cJ cZ cS cO b K V fz yX9_readList (wsOf yX9_readList cX9_readList 8 none) (n + 3) [.ref (b + x0), .int x1, .int x2, .int x3, .int x4] cs cs9) (cs : CS) (x0 : Nat) (cs9 : CS) (hf : cb_X9_readSign F T cs x0 = some cs9) : ocV l dC dI cB cI cJ cZ cS cO b K V fz yX9_readSign (wsOf yX9_readSign cX9_readSign 3 none) (n + 1 + 3) [.ref (b + x0)] cs cs9 := by
  intro sz
  refine Met.ofW (cc := cX9_readSign) (maxL := 3) (ret := none) (by decide) rfl ?_
  intro p e s m args below meth c s₁ B hml hv
  obtain ⟨rfl, hsz, hP, hK, hD0, hZ⟩ := hv
  have hx := B.exec
  have hb := B.bytes
  have hr := B.returns
  have hts := atoms_spec (ws := (wsOf yX9_readSign cX9_readSign 3 none)) B.pre
  have hown : s.vm.findClass RX9 = some m.cls := findClass_of_methodNamed B.named
  have hlocks := B.notSynchronized
  subst hsz
  have hD := hD0.self (sz := s.heap.size)
  generalize hAe : va_A (cW cB cI cJ cZ cS cO b cs) s.heap.size = A at hD hZ ⊢
  have hA : ∀ q : Nat, s.heap.size ≤ q → A q := fun q h => by rw [← hAe]; exact Or.inr h
  have hS : va_S A s.heap s.heap [] := va_S.rf
  have hl := lv_entry ([.ref (b + x0)]) (n := 3) (Nat.le_of_ble_eq_true rfl)
  rw [lg_entry_eq]
  generalize (lg_sl ([.ref (b + x0)]) ++ List.replicate (3 - (lg_sl ([.ref (b + x0)])).length) Slot.unset).toArray = ls at hl ⊢
  have hl : lv_has ls 3 [(0, .ref (b + x0))] := hl
  have B_49 : ∀ (cs1 : CS) (u0 : Nat) (u1 : Int32) (u2 : Int32), c_X9_readSign_b49 F T cs1 u0 u1 u2 = some cs9 → ∀ (H : Heap) (locs : List Loc) (ls : Array Slot), va_P (dC, dI) vwCl (cW cB cI cJ cZ cS cO b cs1) H → va_D A (cW cB cI cJ cZ cS cO b cs1) → va_S A s.heap H locs → lv_has ls 3 [(0, .ref (b + u0)), (1, .int u1), (2, .int u2)] → W p l e (headSpec (wsOf yX9_readSign cX9_readSign 3 none) ({ frames := n + 1 + 3, cells := 0, slots := 0, locals := 60 * (n + 1 + 3) } : Room)).room s m ([.ref (b + x0)] : List Value).toArray below meth c H locs 0 0 (MQ below (va_Qv (fun (_ : Unit) => True) (fun _ t_ => va_P (dC, dI) vwCl (cW cB cI cJ cZ cS cO b cs9) t_.heap ∧ va_D A (cW cB cI cJ cZ cS cO b cs9)) A) ([.ref (b + x0)] : List Value).toArray s 0 0 A) (F0 m 49 ls []) := by
    intro cs1 u0 u1 u2 h H locs ls hP hD hS hl
    unfold c_X9_readSign_b49 at h
    refine lv_aload_n hx hb dX9_readSign_49 rfl (lv_at hl 0 rfl) ?_
    refine lv_dup hx hb dX9_readSign_50 rfl ?_
    replace h := ob h; obtain ⟨v_1, hv_1, h⟩ := h
    refine fg_X9_275 hx hb hts hown hK hP hv_1 dX9_readSign_51 ?_
    refine lv_iconst (v := 1) hx hb dX9_readSign_54 (by decide) ?_
    refine lv_isub hx hb dX9_readSign_55 ?_
    replace h := ob h; obtain ⟨cs_2, hv_2, h⟩ := h
    refine fp_X9_275 hx hb hts hown hK hP hD hS hv_2 dX9_readSign_56 (fun H locs hP hD hS => ?_)
    refine lv_aload_n hx hb dX9_readSign_59 rfl (lv_at hl 0 rfl) ?_
    refine lv_bipush (v := 58) hx hb dX9_readSign_60 (by decide) ?_
    refine lv_iload_n hx hb dX9_readSign_62 rfl (lv_at hl 1 rfl) ?_
    refine lv_iload_n hx hb dX9_readSign_63 rfl (lv_at hl 2 rfl) ?_
    refine lv_iload_n hx hb dX9_readSign_64 rfl (lv_at hl 2 rfl) ?_
    refine lv_iconst (v := 1) hx hb dX9_readSign_65 (by decide) ?_
    replace h := ob h; obtain ⟨w_4, hw_4, h⟩ := h
    replace h := ob h; obtain ⟨z_3, hv_3, h⟩ := h
    refine ccI (As := [.int 58, .int u1, .int u2, .int u2, .int 1]) hx hb hml hts hown hK hP hD hS hA hZ (X := 10) (by decide) rfl (ckE_some hw_4) (sc_X9_complete l dC dI cB cI cJ cZ cS cO b K V fz F cs_2 u0 58 u1 u2 u2 1 z_3.1 z_3.2 hv_3) (cw_X9_X9_complete hts (fr := 1) (by show 1 + 1 ≤ n + 1 + 3; omega) (by show 8 + (6 + 11) + 60 * (1) ≤ 60 * (n + 1 + 3); omega)) rfl hl.1 (Nat.le_of_ble_eq_true rfl) ⟨Nat.zero_le _, Nat.zero_le _⟩ dX9_readSign_66 (fun H locs hP hD hS => ?_)
    refine lv_pop hx hb dX9_readSign_69 rfl ?_
    have e1 := Option.some.inj h
    rw [e1] at hP hD
    exact W.vret hx hb hr (fun t_ ht hW => ⟨⟨(), rfl, trivial, by rw [ht]; exact hP, hD⟩, hS.F ht⟩) hS.2.2 dX9_readSign_70
  have h := hf
  unfold cb_X9_readSign at h
  refine lv_aload_n hx hb dX9_readSign_0 rfl (lv_at hl 0 rfl) ?_
  replace h := ob h; obtain ⟨w_6, hw_6, h⟩ := h
  replace h := ob h; obtain ⟨v_5, hv_5, h⟩ := h
  refine ccI (As := []) hx hb hml hts hown hK hP hD hS hA hZ (X := 10) (by decide) rfl (ckE_some hw_6) (sc_X9_kind l dC dI cB cI cJ cZ cS cO b K V fz F cs x0 v_5 hv_5) (cw_X9_X9_kind hts (fr := 0) (by show 0 + 1 ≤ n + 1 + 3; omega) (by show 8 + (1 + 11) + 60 * (0) ≤ 60 * (n + 1 + 3); omega)) rfl hl.1 (Nat.le_of_ble_eq_true rfl) ⟨Nat.zero_le _, Nat.zero_le _⟩ dX9_readSign_1 (fun H locs hP hD hS => ?_)
  refine lv_bipush (v := 46) hx hb dX9_readSign_4 (by decide) ?_
  refine lv_icmp_eq (tgt := 14) hx hb dX9_readSign_6 (by decide) (fun c_7 => ?_) (fun c_7 => ?_)
  · skip
    replace h := (if_pos c_7).symm.trans h
    refine lv_aload_n hx hb dX9_readSign_14 rfl (lv_at hl 0 rfl) ?_
    replace h := ob h; obtain ⟨v_8, hv_8, h⟩ := h
    refine fg_X9_26 hx hb hts hown hK hP hv_8 dX9_readSign_15 ?_
    replace h := ob h; obtain ⟨i_9, hi_9, h⟩ := h
    subst hi_9
    replace h := ob h; obtain ⟨v_10, hv_10, h⟩ := h
    refine fg_X9_296 hx hb hts hown hK hP hv_10 dX9_readSign_18 ?_
    refine lv_istore_n (lv' := [(1, .int v_10), (0, .ref (b + x0))]) hx hb dX9_readSign_21 rfl hl (by decide) rfl (fun ls hl => ?_)
    refine lv_aload_n hx hb dX9_readSign_22 rfl (lv_at hl 1 rfl) ?_
    replace h := ob h; obtain ⟨w_12, hw_12, h⟩ := h
    replace h := ob h; obtain ⟨v_11, hv_11, h⟩ := h
    refine ccI (As := []) hx hb hml hts hown hK hP hD hS hA hZ (X := 10) (by decide) rfl (ckE_some hw_12) (sc_X9_here l dC dI cB cI cJ cZ cS cO b K V fz F cs x0 v_11 hv_11) (cw_X9_X9_here hts (fr := 0) (by show 0 + 1 ≤ n + 1 + 3; omega) (by show 8 + (1 + 11) + 60 * (0) ≤ 60 * (n + 1 + 3); omega)) rfl hl.1 (Nat.le_of_ble_eq_true rfl) ⟨Nat.zero_le _, Nat.zero_le _⟩ dX9_readSign_23 (fun H locs hP hD hS => ?_)
    refine lv_istore_n (lv' := [(2, .int v_11), (1, .int v_10), (0, .ref (b + x0))]) hx hb dX9_readSign_26 rfl hl (by decide) rfl (fun ls hl => ?_)
    refine lv_aload_n hx hb dX9_readSign_27 rfl (lv_at hl 2 rfl) ?_
    replace h := ob h; obtain ⟨w_14, hw_14, h⟩ := h
    replace h := ob h; obtain ⟨cs_13, hv_13, h⟩ := h
    refine ccV (As := []) hx hb hml hts hown hK hP hD hS hA hZ (X := 10) (by decide) rfl (ckE_some hw_14) (sc_X9_deepen l dC dI cB cI cJ cZ cS cO b K V fz F cs x0 cs_13 hv_13) (cw_X9_X9_deepen hts (fr := 1) (by show 1 + 1 ≤ n + 1 + 3; omega) (by show 8 + (1 + 11) + 60 * (1) ≤ 60 * (n + 1 + 3); omega)) rfl hl.1 (Nat.le_of_ble_eq_true rfl) ⟨Nat.zero_le _, Nat.zero_le _⟩ dX9_readSign_28 (fun H locs hP hD hS => ?_)
    refine lv_aload_n hx hb dX9_readSign_31 rfl (lv_at hl 2 rfl) ?_
    refine lv_bipush (v := 46) hx hb dX9_readSign_32 (by decide) ?_
    replace h := ob h; obtain ⟨w_16, hw_16, h⟩ := h
    replace h := ob h; obtain ⟨z_15, hv_15, h⟩ := h
    refine ccI (As := [.int 46]) hx hb hml hts hown hK hP hD hS hA hZ (X := 10) (by decide) rfl (ckE_some hw_16) (sc_X9_accept l dC dI cB cI cJ cZ cS cO b K V fz F cs_13 x0 46 z_15.1 z_15.2 hv_15) (cw_X9_X9_accept hts (fr := 1) (by show 1 + 1 ≤ n + 1 + 3; omega) (by show 8 + (3 + 11) + 60 * (1) ≤ 60 * (n + 1 + 3); omega)) rfl hl.1 (Nat.le_of_ble_eq_true rfl) ⟨Nat.zero_le _, Nat.zero_le _⟩ dX9_readSign_34 (fun H locs hP hD hS => ?_)
    refine lv_pop hx hb dX9_readSign_37 rfl ?_
    refine lv_aload_n hx hb dX9_readSign_38 rfl (lv_at hl 2 rfl) ?_
    replace h := ob h; obtain ⟨v_17, hv_17, h⟩ := h
    refine fg_X9_93 hx hb hts hown hK hP hv_17 dX9_readSign_39 ?_
    refine lv_if_ne (tgt := 49) hx hb dX9_readSign_42 (by decide) (fun c_18 => ?_) (fun c_18 => ?_)
    · skip
      replace h := (if_neg c_18).symm.trans h
      exact B_49 z_15.1 x0 v_10 v_11 h _ _ _ hP hD hS (lv_sub hl [2, 1, 0] rfl)
    · skip
      replace h := (if_pos c_18).symm.trans h
      refine lv_aload_n hx hb dX9_readSign_45 rfl (lv_at hl 2 rfl) ?_
      replace h := ob h; obtain ⟨w_20, hw_20, h⟩ := h
      replace h := ob h; obtain ⟨cs_19, hv_19, h⟩ := h
      refine ccV (As := []) hx hb hml hts hown hK hP hD hS hA hZ (X := 10) (by decide) rfl (ckE_some hw_20) (hT_X9_readSign z_15.1 x0 cs_19 hv_19) (cw_X9_X9_readSign hts (fr := n + 3) (by show n + 3 + 1 ≤ n + 1 + 3; omega) (by show 8 + (3 + 11) + 60 * (n + 3) ≤ 60 * (n + 1 + 3); omega)) rfl hl.1 (Nat.le_of_ble_eq_true rfl) ⟨Nat.zero_le _, Nat.zero_le _⟩ dX9_readSign_46 (fun H locs hP hD hS => ?_)
      exact B_49 cs_19 x0 v_10 v_11 h _ _ _ hP hD hS (lv_sub hl [2, 1, 0] rfl)
  · skip
    replace h := (if_neg c_7).symm.trans h
    refine lv_aload_n hx hb dX9_readSign_9 rfl (lv_at hl 0 rfl) ?_
    replace h := ob h; obtain ⟨w_22, hw_22, h⟩ := h
    replace h := ob h; obtain ⟨cs_21, hv_21, h⟩ := h
    refine ccV (As := []) hx hb hml hts hown hK hP hD hS hA hZ (X := 10) (by decide) rfl (ckE_some hw_22) (hT_X9_readOne cs x0 cs_21 hv_21) (cw_X9_X9_readOne hts (fr := n + 3) (by show n + 3 + 1 ≤ n + 1 + 3; omega) (by show 8 + (1 + 11) + 60 * (n + 3) ≤ 60 * (n + 1 + 3); omega)) rfl hl.1 (Nat.le_of_ble_eq_true rfl) ⟨Nat.zero_le _, Nat.zero_le _⟩ dX9_readSign_10 (fun H locs hP hD hS => ?_)
    have e1 := Option.some.inj h
    rw [e1] at hP hD
    exact W.vret hx hb hr (fun t_ ht hW => ⟨⟨(), rfl, trivial, by rw [ht]; exact hP, hD⟩, hS.F ht⟩) hS.2.2 dX9_readSign_13
set_option maxHeartbeats 4000000 in
set_option maxRecDepth 100000 in
theorem sbc_X9_readOne (l : Launch) (dC : Nat → ClassId) (dI : Nat → Nat → Nat) (cB cI cJ cZ cS cO : ClassId) (b : Nat) (K V : Nat → Nat) (fz : Value) (F : Nat) (n : Nat) (T : TC_X9_readExpr) (hT_X9_readExpr : ∀ (cs : CS) (x0 : Nat) (cs9 : CS) (r9 : Int32), T.1 cs x0 = some (cs9, r9) → ocI l dC dI cB cI cJ cZ cS cO b K V fz yX9_readExpr (wsOf yX9_readExpr cX9_readExpr 5 (some .int)) (n + 3) [.ref (b + x0)] cs cs9 r9) (hT_X9_readConjunction : ∀ (cs : CS) (x0 : Nat) (cs9 : CS), T.2.1 cs x0 = some cs9 → ocV l dC dI cB cI cJ cZ cS cO b K V fz yX9_readConjunction (wsOf yX9_readConjunction cX9_readConjunction 5 none) (n + 3) [.ref (b + x0)] cs cs9) (hT_X9_readNegation : ∀ (cs : CS) (x0 : Nat) (cs9 : CS), T.2.2.1 cs x0 = some cs9 → ocV l dC dI cB cI cJ cZ cS cO b K V fz yX9_readNegation (wsOf yX9_readNegation cX9_readNegation 3 none) (n + 3) [.ref (b + x0)] cs cs9) (hT_X9_readTest : ∀ (cs : CS) (x0 : Nat) (cs9 : CS), T.2.2.2.1 cs x0 = some cs9 → ocV l dC dI cB cI cJ cZ cS cO b K V fz yX9_readTest (wsOf yX9_readTest cX9_readTest 6 none) (n + 3) [.ref (b + x0)] cs cs9) (hT_X9_readSum : ∀ (cs : CS) (x0 : Nat) (cs9 : CS), T.2.2.2.2.1 cs x0 = some cs9 → ocV l dC dI cB cI cJ cZ cS cO b K V fz yX9_readSum (wsOf yX9_readSum cX9_readSum 6 none) (n + 3) [.ref (b + x0)] cs cs9) (hT_X9_readPart : ∀ (cs : CS) (x0 : Nat) (cs9 : CS), T.2.2.2.2.2.1 cs x0 = some cs9 → ocV l dC dI cB cI cJ cZ cS cO b K V fz yX9_readPart (wsOf yX9_readPart cX9_readPart 6 none) (n + 3) [.ref (b + x0)] cs cs9) (hT_X9_readSign : ∀ (cs : CS) (x0 : Nat) (cs9 : CS), T.2.2.2.2.2.2.1 cs x0 = some cs9 → ocV l dC dI cB cI cJ cZ cS cO b K V fz yX9_readSign (wsOf yX9_readSign cX9_readSign 3 none) (n + 3) [.ref (b + x0)] cs cs9) (hT_X9_readOne : ∀ (cs : CS) (x0 : Nat) (cs9 : CS), T.2.2.2.2.2.2.2.1 cs x0 = some cs9 → ocV l dC dI cB cI cJ cZ cS cO b K V fz yX9_readOne (wsOf yX9_readOne cX9_readOne 1 none) (n + 3) [.ref (b + x0)] cs cs9) (hT_X9_readCase : ∀ (cs : CS) (x0 : Nat) (cs9 : CS), T.2.2.2.2.2.2.2.2.1 cs x0 = some cs9 → ocV l dC dI cB cI cJ cZ cS cO b K V fz yX9_readCase (wsOf yX9_readCase cX9_readCase 3 none) (n + 3) [.ref (b + x0)] cs cs9) (hT_X9_readSpan : ∀ (cs : CS) (x0 : Nat) (cs9 : CS), T.2.2.2.2.2.2.2.2.2.1 cs x0 = some cs9 → ocV l dC dI cB cI cJ cZ cS cO b K V fz yX9_readSpan (wsOf yX9_readSpan cX9_readSpan 3 none) (n + 3) [.ref (b + x0)] cs cs9) (hT_X9_readAggregate : ∀ (cs : CS) (x0 : Nat) (cs9 : CS), T.2.2.2.2.2.2.2.2.2.2.1 cs x0 = some cs9 → ocV l dC dI cB cI cJ cZ cS cO b K V fz yX9_readAggregate (wsOf yX9_readAggregate cX9_readAggregate 7 none) (n + 3) [.ref (b + x0)] cs cs9) (hT_X9_readList : ∀ (cs : CS) (x0 : Nat) (x1 : Int32) (x2 : Int32) (x3 : Int32) (x4 : Int32) (cs9 : CS), T.2.2.2.2.2.2.2.2.2.2.2 cs x0 x1 x2 x3 x4 = some cs9 → ocV l dC dI cB cI cJ cZ cS cO b K V fz yX9_readList (wsOf yX9_readList cX9_readList 8 none) (n + 3) [.ref (b + x0), .int x1, .int x2, .int x3, .int x4] cs cs9) (cs : CS) (x0 : Nat) (cs9 : CS) (hf : cb_X9_readOne F T cs x0 = some cs9) : ocV l dC dI cB cI cJ cZ cS cO b K V fz yX9_readOne (wsOf yX9_readOne cX9_readOne 1 none) (n + 1 + 3) [.ref (b + x0)] cs cs9 := by
  intro sz
  refine Met.ofW (cc := cX9_readOne) (maxL := 1) (ret := none) (by decide) rfl ?_
  intro p e s m args below meth c s₁ B hml hv
  obtain ⟨rfl, hsz, hP, hK, hD0, hZ⟩ := hv
  have hx := B.exec
  have hb := B.bytes
  have hr := B.returns
  have hts := atoms_spec (ws := (wsOf yX9_readOne cX9_readOne 1 none)) B.pre
  have hown : s.vm.findClass RX9 = some m.cls := findClass_of_methodNamed B.named
  have hlocks := B.notSynchronized
  subst hsz
  have hD := hD0.self (sz := s.heap.size)
  generalize hAe : va_A (cW cB cI cJ cZ cS cO b cs) s.heap.size = A at hD hZ ⊢
  have hA : ∀ q : Nat, s.heap.size ≤ q → A q := fun q h => by rw [← hAe]; exact Or.inr h
  have hS : va_S A s.heap s.heap [] := va_S.rf
  have hl := lv_entry ([.ref (b + x0)]) (n := 1) (Nat.le_of_ble_eq_true rfl)
  rw [lg_entry_eq]
  generalize (lg_sl ([.ref (b + x0)]) ++ List.replicate (1 - (lg_sl ([.ref (b + x0)])).length) Slot.unset).toArray = ls at hl ⊢
  have hl : lv_has ls 1 [(0, .ref (b + x0))] := hl
  have B_191 : ∀ (cs1 : CS) , c_X9_readOne_b191 F T cs1 = some cs9 → ∀ (H : Heap) (locs : List Loc) (ls : Array Slot), va_P (dC, dI) vwCl (cW cB cI cJ cZ cS cO b cs1) H → va_D A (cW cB cI cJ cZ cS cO b cs1) → va_S A s.heap H locs → lv_has ls 1 [] → W p l e (headSpec (wsOf yX9_readOne cX9_readOne 1 none) ({ frames := n + 1 + 3, cells := 0, slots := 0, locals := 60 * (n + 1 + 3) } : Room)).room s m ([.ref (b + x0)] : List Value).toArray below meth c H locs 0 0 (MQ below (va_Qv (fun (_ : Unit) => True) (fun _ t_ => va_P (dC, dI) vwCl (cW cB cI cJ cZ cS cO b cs9) t_.heap ∧ va_D A (cW cB cI cJ cZ cS cO b cs9)) A) ([.ref (b + x0)] : List Value).toArray s 0 0 A) (F0 m 191 ls []) := by
    intro cs1  h H locs ls hP hD hS hl
    unfold c_X9_readOne_b191 at h
    have e1 := Option.some.inj h
    rw [e1] at hP hD
    exact W.vret hx hb hr (fun t_ ht hW => ⟨⟨(), rfl, trivial, by rw [ht]; exact hP, hD⟩, hS.F ht⟩) hS.2.2 dX9_readOne_191
  have B_112 : ∀ (cs1 : CS) (u0 : Nat), c_X9_readOne_b112 F T cs1 u0 = some cs9 → ∀ (H : Heap) (locs : List Loc) (ls : Array Slot), va_P (dC, dI) vwCl (cW cB cI cJ cZ cS cO b cs1) H → va_D A (cW cB cI cJ cZ cS cO b cs1) → va_S A s.heap H locs → lv_has ls 1 [(0, .ref (b + u0))] → W p l e (headSpec (wsOf yX9_readOne cX9_readOne 1 none) ({ frames := n + 1 + 3, cells := 0, slots := 0, locals := 60 * (n + 1 + 3) } : Room)).room s m ([.ref (b + x0)] : List Value).toArray below meth c H locs 0 0 (MQ below (va_Qv (fun (_ : Unit) => True) (fun _ t_ => va_P (dC, dI) vwCl (cW cB cI cJ cZ cS cO b cs9) t_.heap ∧ va_D A (cW cB cI cJ cZ cS cO b cs9)) A) ([.ref (b + x0)] : List Value).toArray s 0 0 A) (F0 m 112 ls []) := by
    intro cs1 u0 h H locs ls hP hD hS hl
    unfold c_X9_readOne_b112 at h
    refine lv_aload_n hx hb dX9_readOne_112 rfl (lv_at hl 0 rfl) ?_
    replace h := ob h; obtain ⟨w_2, hw_2, h⟩ := h
    replace h := ob h; obtain ⟨cs_1, hv_1, h⟩ := h
    refine ccV (As := []) hx hb hml hts hown hK hP hD hS hA hZ (X := 10) (by decide) rfl (ckE_some hw_2) (sc_X9_readLiteral l dC dI cB cI cJ cZ cS cO b K V fz F cs1 u0 cs_1 hv_1) (cw_X9_X9_readLiteral hts (fr := 2) (by show 2 + 1 ≤ n + 1 + 3; omega) (by show 8 + (6 + 11) + 60 * (2) ≤ 60 * (n + 1 + 3); omega)) rfl hl.1 (Nat.le_of_ble_eq_true rfl) ⟨Nat.zero_le _, Nat.zero_le _⟩ dX9_readOne_113 (fun H locs hP hD hS => ?_)
    refine lv_goto (tgt := 191) hx hb dX9_readOne_116 (by decide) ?_
    exact B_191 cs_1 h _ _ _ hP hD hS (lv_sub hl [] rfl)
  have B_119 : ∀ (cs1 : CS) (u0 : Nat), c_X9_readOne_b119 F T cs1 u0 = some cs9 → ∀ (H : Heap) (locs : List Loc) (ls : Array Slot), va_P (dC, dI) vwCl (cW cB cI cJ cZ cS cO b cs1) H → va_D A (cW cB cI cJ cZ cS cO b cs1) → va_S A s.heap H locs → lv_has ls 1 [(0, .ref (b + u0))] → W p l e (headSpec (wsOf yX9_readOne cX9_readOne 1 none) ({ frames := n + 1 + 3, cells := 0, slots := 0, locals := 60 * (n + 1 + 3) } : Room)).room s m ([.ref (b + x0)] : List Value).toArray below meth c H locs 0 0 (MQ below (va_Qv (fun (_ : Unit) => True) (fun _ t_ => va_P (dC, dI) vwCl (cW cB cI cJ cZ cS cO b cs9) t_.heap ∧ va_D A (cW cB cI cJ cZ cS cO b cs9)) A) ([.ref (b + x0)] : List Value).toArray s 0 0 A) (F0 m 119 ls []) := by
    intro cs1 u0 h H locs ls hP hD hS hl
    unfold c_X9_readOne_b119 at h
    refine lv_aload_n hx hb dX9_readOne_119 rfl (lv_at hl 0 rfl) ?_
    replace h := ob h; obtain ⟨w_4, hw_4, h⟩ := h
    replace h := ob h; obtain ⟨cs_3, hv_3, h⟩ := h
    refine ccV (As := []) hx hb hml hts hown hK hP hD hS hA hZ (X := 10) (by decide) rfl (ckE_some hw_4) (sc_X9_readColumn l dC dI cB cI cJ cZ cS cO b K V fz F cs1 u0 cs_3 hv_3) (cw_X9_X9_readColumn hts (fr := 2) (by show 2 + 1 ≤ n + 1 + 3; omega) (by show 8 + (8 + 11) + 60 * (2) ≤ 60 * (n + 1 + 3); omega)) rfl hl.1 (Nat.le_of_ble_eq_true rfl) ⟨Nat.zero_le _, Nat.zero_le _⟩ dX9_readOne_120 (fun H locs hP hD hS => ?_)
    refine lv_goto (tgt := 191) hx hb dX9_readOne_123 (by decide) ?_
    exact B_191 cs_3 h _ _ _ hP hD hS (lv_sub hl [] rfl)
  have B_175 : ∀ (cs1 : CS) (u0 : Nat), c_X9_readOne_b175 F T cs1 u0 = some cs9 → ∀ (H : Heap) (locs : List Loc) (ls : Array Slot), va_P (dC, dI) vwCl (cW cB cI cJ cZ cS cO b cs1) H → va_D A (cW cB cI cJ cZ cS cO b cs1) → va_S A s.heap H locs → lv_has ls 1 [(0, .ref (b + u0))] → W p l e (headSpec (wsOf yX9_readOne cX9_readOne 1 none) ({ frames := n + 1 + 3, cells := 0, slots := 0, locals := 60 * (n + 1 + 3) } : Room)).room s m ([.ref (b + x0)] : List Value).toArray below meth c H locs 0 0 (MQ below (va_Qv (fun (_ : Unit) => True) (fun _ t_ => va_P (dC, dI) vwCl (cW cB cI cJ cZ cS cO b cs9) t_.heap ∧ va_D A (cW cB cI cJ cZ cS cO b cs9)) A) ([.ref (b + x0)] : List Value).toArray s 0 0 A) (F0 m 175 ls []) := by
    intro cs1 u0 h H locs ls hP hD hS hl
    unfold c_X9_readOne_b175 at h
    refine lv_aload_n hx hb dX9_readOne_175 rfl (lv_at hl 0 rfl) ?_
    replace h := ob h; obtain ⟨w_6, hw_6, h⟩ := h
    replace h := ob h; obtain ⟨cs_5, hv_5, h⟩ := h
    refine ccV (As := []) hx hb hml hts hown hK hP hD hS hA hZ (X := 10) (by decide) rfl (ckE_some hw_6) (hT_X9_readAggregate cs1 u0 cs_5 hv_5) (cw_X9_X9_readAggregate hts (fr := n + 3) (by show n + 3 + 1 ≤ n + 1 + 3; omega) (by show 8 + (7 + 11) + 60 * (n + 3) ≤ 60 * (n + 1 + 3); omega)) rfl hl.1 (Nat.le_of_ble_eq_true rfl) ⟨Nat.zero_le _, Nat.zero_le _⟩ dX9_readOne_176 (fun H locs hP hD hS => ?_)
    refine lv_goto (tgt := 191) hx hb dX9_readOne_179 (by decide) ?_
    exact B_191 cs_5 h _ _ _ hP hD hS (lv_sub hl [] rfl)
  have B_182 : ∀ (cs1 : CS) (u0 : Nat), c_X9_readOne_b182 F T cs1 u0 = some cs9 → ∀ (H : Heap) (locs : List Loc) (ls : Array Slot), va_P (dC, dI) vwCl (cW cB cI cJ cZ cS cO b cs1) H → va_D A (cW cB cI cJ cZ cS cO b cs1) → va_S A s.heap H locs → lv_has ls 1 [(0, .ref (b + u0))] → W p l e (headSpec (wsOf yX9_readOne cX9_readOne 1 none) ({ frames := n + 1 + 3, cells := 0, slots := 0, locals := 60 * (n + 1 + 3) } : Room)).room s m ([.ref (b + x0)] : List Value).toArray below meth c H locs 0 0 (MQ below (va_Qv (fun (_ : Unit) => True) (fun _ t_ => va_P (dC, dI) vwCl (cW cB cI cJ cZ cS cO b cs9) t_.heap ∧ va_D A (cW cB cI cJ cZ cS cO b cs9)) A) ([.ref (b + x0)] : List Value).toArray s 0 0 A) (F0 m 182 ls []) := by
    intro cs1 u0 h H locs ls hP hD hS hl
    unfold c_X9_readOne_b182 at h
    refine lv_aload_n hx hb dX9_readOne_182 rfl (lv_at hl 0 rfl) ?_
    refine lv_iconst (v := 1) hx hb dX9_readOne_183 (by decide) ?_
    refine lv_aload_n hx hb dX9_readOne_184 rfl (lv_at hl 0 rfl) ?_
    replace h := ob h; obtain ⟨w_8, hw_8, h⟩ := h
    replace h := ob h; obtain ⟨v_7, hv_7, h⟩ := h
    refine ccI (As := []) hx hb hml hts hown hK hP hD hS hA hZ (X := 10) (by decide) rfl (ckE_some hw_8) (sc_X9_here l dC dI cB cI cJ cZ cS cO b K V fz F cs1 u0 v_7 hv_7) (cw_X9_X9_here hts (fr := 0) (by show 0 + 1 ≤ n + 1 + 3; omega) (by show 8 + (1 + 11) + 60 * (0) ≤ 60 * (n + 1 + 3); omega)) rfl hl.1 (Nat.le_of_ble_eq_true rfl) ⟨Nat.zero_le _, Nat.zero_le _⟩ dX9_readOne_185 (fun H locs hP hD hS => ?_)
    replace h := ob h; obtain ⟨w_10, hw_10, h⟩ := h
    replace h := ob h; obtain ⟨cs_9, hv_9, h⟩ := h
    refine ccV (As := [.int 1, .int v_7]) hx hb hml hts hown hK hP hD hS hA hZ (X := 10) (by decide) rfl (ckE_some hw_10) (sc_X9_refuse l dC dI cB cI cJ cZ cS cO b K V fz F cs1 u0 1 v_7 cs_9 hv_9) (cw_X9_X9_refuse hts (fr := 0) (by show 0 + 1 ≤ n + 1 + 3; omega) (by show 8 + (3 + 11) + 60 * (0) ≤ 60 * (n + 1 + 3); omega)) rfl hl.1 (Nat.le_of_ble_eq_true rfl) ⟨Nat.zero_le _, Nat.zero_le _⟩ dX9_readOne_188 (fun H locs hP hD hS => ?_)
    exact B_191 cs_9 h _ _ _ hP hD hS (lv_sub hl [] rfl)
  have h := hf
  unfold cb_X9_readOne at h
  refine lv_aload_n hx hb dX9_readOne_0 rfl (lv_at hl 0 rfl) ?_
  replace h := ob h; obtain ⟨w_12, hw_12, h⟩ := h
  replace h := ob h; obtain ⟨v_11, hv_11, h⟩ := h
  refine ccI (As := []) hx hb hml hts hown hK hP hD hS hA hZ (X := 10) (by decide) rfl (ckE_some hw_12) (sc_X9_kind l dC dI cB cI cJ cZ cS cO b K V fz F cs x0 v_11 hv_11) (cw_X9_X9_kind hts (fr := 0) (by show 0 + 1 ≤ n + 1 + 3; omega) (by show 8 + (1 + 11) + 60 * (0) ≤ 60 * (n + 1 + 3); omega)) rfl hl.1 (Nat.le_of_ble_eq_true rfl) ⟨Nat.zero_le _, Nat.zero_le _⟩ dX9_readOne_1 (fun H locs hP hD hS => ?_)
  by_cases c_13 : v_11 = 19
  · skip
    replace h := (if_pos c_13).symm.trans h
    refine lv_tableIn (tgt := 161) (off := 157) hx hb dX9_readOne_4 (by rw [c_13]; decide) (by rw [c_13]; decide) (by rw [c_13]; decide) (by decide) ?_
    refine lv_aload_n hx hb dX9_readOne_161 rfl (lv_at hl 0 rfl) ?_
    replace h := ob h; obtain ⟨w_15, hw_15, h⟩ := h
    replace h := ob h; obtain ⟨cs_14, hv_14, h⟩ := h
    refine ccV (As := []) hx hb hml hts hown hK hP hD hS hA hZ (X := 10) (by decide) rfl (ckE_some hw_15) (hT_X9_readCase cs x0 cs_14 hv_14) (cw_X9_X9_readCase hts (fr := n + 3) (by show n + 3 + 1 ≤ n + 1 + 3; omega) (by show 8 + (3 + 11) + 60 * (n + 3) ≤ 60 * (n + 1 + 3); omega)) rfl hl.1 (Nat.le_of_ble_eq_true rfl) ⟨Nat.zero_le _, Nat.zero_le _⟩ dX9_readOne_162 (fun H locs hP hD hS => ?_)
    refine lv_goto (tgt := 191) hx hb dX9_readOne_165 (by decide) ?_
    exact B_191 cs_14 h _ _ _ hP hD hS (lv_sub hl [] rfl)
  replace h := (if_neg c_13).symm.trans h
  by_cases c_16 : v_11 = 26
  · skip
    replace h := (if_pos c_16).symm.trans h
    refine lv_tableIn (tgt := 112) (off := 108) hx hb dX9_readOne_4 (by rw [c_16]; decide) (by rw [c_16]; decide) (by rw [c_16]; decide) (by decide) ?_
    exact B_112 cs x0 h _ _ _ hP hD hS (lv_sub hl [0] rfl)
  replace h := (if_neg c_16).symm.trans h
  by_cases c_17 : v_11 = 30
  · skip
    replace h := (if_pos c_17).symm.trans h
    refine lv_tableIn (tgt := 112) (off := 108) hx hb dX9_readOne_4 (by rw [c_17]; decide) (by rw [c_17]; decide) (by rw [c_17]; decide) (by decide) ?_
    exact B_112 cs x0 h _ _ _ hP hD hS (lv_sub hl [0] rfl)
  replace h := (if_neg c_17).symm.trans h
  by_cases c_18 : v_11 = 31
  · skip
    replace h := (if_pos c_18).symm.trans h
    refine lv_tableIn (tgt := 112) (off := 108) hx hb dX9_readOne_4 (by rw [c_18]; decide) (by rw [c_18]; decide) (by rw [c_18]; decide) (by decide) ?_
    exact B_112 cs x0 h _ _ _ hP hD hS (lv_sub hl [0] rfl)
  replace h := (if_neg c_18).symm.trans h
  by_cases c_19 : v_11 = 32
  · skip
    replace h := (if_pos c_19).symm.trans h
    refine lv_tableIn (tgt := 175) (off := 171) hx hb dX9_readOne_4 (by rw [c_19]; decide) (by rw [c_19]; decide) (by rw [c_19]; decide) (by decide) ?_
    exact B_175 cs x0 h _ _ _ hP hD hS (lv_sub hl [0] rfl)
  replace h := (if_neg c_19).symm.trans h
  by_cases c_20 : v_11 = 33
  · skip
    replace h := (if_pos c_20).symm.trans h
    refine lv_tableIn (tgt := 175) (off := 171) hx hb dX9_readOne_4 (by rw [c_20]; decide) (by rw [c_20]; decide) (by rw [c_20]; decide) (by decide) ?_
    exact B_175 cs x0 h _ _ _ hP hD hS (lv_sub hl [0] rfl)
  replace h := (if_neg c_20).symm.trans h
  by_cases c_21 : v_11 = 34
  · skip
    replace h := (if_pos c_21).symm.trans h
    refine lv_tableIn (tgt := 175) (off := 171) hx hb dX9_readOne_4 (by rw [c_21]; decide) (by rw [c_21]; decide) (by rw [c_21]; decide) (by decide) ?_
    exact B_175 cs x0 h _ _ _ hP hD hS (lv_sub hl [0] rfl)
  replace h := (if_neg c_21).symm.trans h
  by_cases c_22 : v_11 = 35
  · skip
    replace h := (if_pos c_22).symm.trans h
    refine lv_tableIn (tgt := 175) (off := 171) hx hb dX9_readOne_4 (by rw [c_22]; decide) (by rw [c_22]; decide) (by rw [c_22]; decide) (by decide) ?_
    exact B_175 cs x0 h _ _ _ hP hD hS (lv_sub hl [0] rfl)
  replace h := (if_neg c_22).symm.trans h
  by_cases c_23 : v_11 = 36
  · skip
    replace h := (if_pos c_23).symm.trans h
    refine lv_tableIn (tgt := 168) (off := 164) hx hb dX9_readOne_4 (by rw [c_23]; decide) (by rw [c_23]; decide) (by rw [c_23]; decide) (by decide) ?_
    refine lv_aload_n hx hb dX9_readOne_168 rfl (lv_at hl 0 rfl) ?_
    replace h := ob h; obtain ⟨w_25, hw_25, h⟩ := h
    replace h := ob h; obtain ⟨cs_24, hv_24, h⟩ := h
    refine ccV (As := []) hx hb hml hts hown hK hP hD hS hA hZ (X := 10) (by decide) rfl (ckE_some hw_25) (hT_X9_readSpan cs x0 cs_24 hv_24) (cw_X9_X9_readSpan hts (fr := n + 3) (by show n + 3 + 1 ≤ n + 1 + 3; omega) (by show 8 + (3 + 11) + 60 * (n + 3) ≤ 60 * (n + 1 + 3); omega)) rfl hl.1 (Nat.le_of_ble_eq_true rfl) ⟨Nat.zero_le _, Nat.zero_le _⟩ dX9_readOne_169 (fun H locs hP hD hS => ?_)
    refine lv_goto (tgt := 191) hx hb dX9_readOne_172 (by decide) ?_
    exact B_191 cs_24 h _ _ _ hP hD hS (lv_sub hl [] rfl)
  replace h := (if_neg c_23).symm.trans h
  by_cases c_26 : v_11 = 38
  · skip
    replace h := (if_pos c_26).symm.trans h
    refine lv_tableIn (tgt := 119) (off := 115) hx hb dX9_readOne_4 (by rw [c_26]; decide) (by rw [c_26]; decide) (by rw [c_26]; decide) (by decide) ?_
    exact B_119 cs x0 h _ _ _ hP hD hS (lv_sub hl [0] rfl)
  replace h := (if_neg c_26).symm.trans h
  by_cases c_27 : v_11 = 39
  · skip
    replace h := (if_pos c_27).symm.trans h
    refine lv_tableIn (tgt := 119) (off := 115) hx hb dX9_readOne_4 (by rw [c_27]; decide) (by rw [c_27]; decide) (by rw [c_27]; decide) (by decide) ?_
    exact B_119 cs x0 h _ _ _ hP hD hS (lv_sub hl [0] rfl)
  replace h := (if_neg c_27).symm.trans h
  by_cases c_28 : v_11 = 40
  · skip
    replace h := (if_pos c_28).symm.trans h
    refine lv_tableIn (tgt := 112) (off := 108) hx hb dX9_readOne_4 (by rw [c_28]; decide) (by rw [c_28]; decide) (by rw [c_28]; decide) (by decide) ?_
    exact B_112 cs x0 h _ _ _ hP hD hS (lv_sub hl [0] rfl)
  replace h := (if_neg c_28).symm.trans h
  by_cases c_29 : v_11 = 41
  · skip
    replace h := (if_pos c_29).symm.trans h
    refine lv_tableIn (tgt := 126) (off := 122) hx hb dX9_readOne_4 (by rw [c_29]; decide) (by rw [c_29]; decide) (by rw [c_29]; decide) (by decide) ?_
    refine lv_aload_n hx hb dX9_readOne_126 rfl (lv_at hl 0 rfl) ?_
    replace h := ob h; obtain ⟨w_31, hw_31, h⟩ := h
    replace h := ob h; obtain ⟨cs_30, hv_30, h⟩ := h
    refine ccV (As := []) hx hb hml hts hown hK hP hD hS hA hZ (X := 10) (by decide) rfl (ckE_some hw_31) (sc_X9_deepen l dC dI cB cI cJ cZ cS cO b K V fz F cs x0 cs_30 hv_30) (cw_X9_X9_deepen hts (fr := 1) (by show 1 + 1 ≤ n + 1 + 3; omega) (by show 8 + (1 + 11) + 60 * (1) ≤ 60 * (n + 1 + 3); omega)) rfl hl.1 (Nat.le_of_ble_eq_true rfl) ⟨Nat.zero_le _, Nat.zero_le _⟩ dX9_readOne_127 (fun H locs hP hD hS => ?_)
    refine lv_aload_n hx hb dX9_readOne_130 rfl (lv_at hl 0 rfl) ?_
    refine lv_bipush (v := 41) hx hb dX9_readOne_131 (by decide) ?_
    replace h := ob h; obtain ⟨w_33, hw_33, h⟩ := h
    replace h := ob h; obtain ⟨z_32, hv_32, h⟩ := h
    refine ccI (As := [.int 41]) hx hb hml hts hown hK hP hD hS hA hZ (X := 10) (by decide) rfl (ckE_some hw_33) (sc_X9_accept l dC dI cB cI cJ cZ cS cO b K V fz F cs_30 x0 41 z_32.1 z_32.2 hv_32) (cw_X9_X9_accept hts (fr := 1) (by show 1 + 1 ≤ n + 1 + 3; omega) (by show 8 + (3 + 11) + 60 * (1) ≤ 60 * (n + 1 + 3); omega)) rfl hl.1 (Nat.le_of_ble_eq_true rfl) ⟨Nat.zero_le _, Nat.zero_le _⟩ dX9_readOne_133 (fun H locs hP hD hS => ?_)
    refine lv_pop hx hb dX9_readOne_136 rfl ?_
    refine lv_aload_n hx hb dX9_readOne_137 rfl (lv_at hl 0 rfl) ?_
    replace h := ob h; obtain ⟨w_35, hw_35, h⟩ := h
    replace h := ob h; obtain ⟨z_34, hv_34, h⟩ := h
    refine ccI (As := []) hx hb hml hts hown hK hP hD hS hA hZ (X := 10) (by decide) rfl (ckE_some hw_35) (hT_X9_readExpr z_32.1 x0 z_34.1 z_34.2 hv_34) (cw_X9_X9_readExpr hts (fr := n + 3) (by show n + 3 + 1 ≤ n + 1 + 3; omega) (by show 8 + (5 + 11) + 60 * (n + 3) ≤ 60 * (n + 1 + 3); omega)) rfl hl.1 (Nat.le_of_ble_eq_true rfl) ⟨Nat.zero_le _, Nat.zero_le _⟩ dX9_readOne_138 (fun H locs hP hD hS => ?_)
    refine lv_pop hx hb dX9_readOne_141 rfl ?_
    refine lv_aload_n hx hb dX9_readOne_142 rfl (lv_at hl 0 rfl) ?_
    refine lv_bipush (v := 42) hx hb dX9_readOne_143 (by decide) ?_
    replace h := ob h; obtain ⟨w_37, hw_37, h⟩ := h
    replace h := ob h; obtain ⟨cs_36, hv_36, h⟩ := h
    refine ccV (As := [.int 42]) hx hb hml hts hown hK hP hD hS hA hZ (X := 10) (by decide) rfl (ckE_some hw_37) (sc_X9_expect l dC dI cB cI cJ cZ cS cO b K V fz F z_34.1 x0 42 cs_36 hv_36) (cw_X9_X9_expect hts (fr := 1) (by show 1 + 1 ≤ n + 1 + 3; omega) (by show 8 + (2 + 11) + 60 * (1) ≤ 60 * (n + 1 + 3); omega)) rfl hl.1 (Nat.le_of_ble_eq_true rfl) ⟨Nat.zero_le _, Nat.zero_le _⟩ dX9_readOne_145 (fun H locs hP hD hS => ?_)
    refine lv_aload_n hx hb dX9_readOne_148 rfl (lv_at hl 0 rfl) ?_
    refine lv_dup hx hb dX9_readOne_149 rfl ?_
    replace h := ob h; obtain ⟨v_38, hv_38, h⟩ := h
    refine fg_X9_275 hx hb hts hown hK hP hv_38 dX9_readOne_150 ?_
    refine lv_iconst (v := 1) hx hb dX9_readOne_153 (by decide) ?_
    refine lv_isub hx hb dX9_readOne_154 ?_
    replace h := ob h; obtain ⟨cs_39, hv_39, h⟩ := h
    refine fp_X9_275 hx hb hts hown hK hP hD hS hv_39 dX9_readOne_155 (fun H locs hP hD hS => ?_)
    refine lv_goto (tgt := 191) hx hb dX9_readOne_158 (by decide) ?_
    exact B_191 cs_39 h _ _ _ hP hD hS (lv_sub hl [] rfl)
  replace h := (if_neg c_29).symm.trans h
  have n_13 : ¬ (v_11 : Int32).toInt = 19 := lv_neT c_13 (by decide)
  have n_16 : ¬ (v_11 : Int32).toInt = 26 := lv_neT c_16 (by decide)
  have n_17 : ¬ (v_11 : Int32).toInt = 30 := lv_neT c_17 (by decide)
  have n_18 : ¬ (v_11 : Int32).toInt = 31 := lv_neT c_18 (by decide)
  have n_19 : ¬ (v_11 : Int32).toInt = 32 := lv_neT c_19 (by decide)
  have n_20 : ¬ (v_11 : Int32).toInt = 33 := lv_neT c_20 (by decide)
  have n_21 : ¬ (v_11 : Int32).toInt = 34 := lv_neT c_21 (by decide)
  have n_22 : ¬ (v_11 : Int32).toInt = 35 := lv_neT c_22 (by decide)
  have n_23 : ¬ (v_11 : Int32).toInt = 36 := lv_neT c_23 (by decide)
  have n_26 : ¬ (v_11 : Int32).toInt = 38 := lv_neT c_26 (by decide)
  have n_27 : ¬ (v_11 : Int32).toInt = 39 := lv_neT c_27 (by decide)
  have n_28 : ¬ (v_11 : Int32).toInt = 40 := lv_neT c_28 (by decide)
  have n_29 : ¬ (v_11 : Int32).toInt = 41 := lv_neT c_29 (by decide)
  by_cases hq_4 : (v_11 : Int32).toInt < 19 ∨ 41 < (v_11 : Int32).toInt
  · skip
    refine lv_tableOut (tgt := 182) hx hb dX9_readOne_4 hq_4 (by decide) ?_
    exact B_182 cs x0 h _ _ _ hP hD hS (lv_sub hl [0] rfl)
  by_cases hq_4_20 : (v_11 : Int32).toInt = 20
  · skip
    refine lv_tableIn (tgt := 182) (off := 178) hx hb dX9_readOne_4 (by omega) (by omega) (by rw [hq_4_20]; decide) (by decide) ?_
    exact B_182 cs x0 h _ _ _ hP hD hS (lv_sub hl [0] rfl)
  by_cases hq_4_21 : (v_11 : Int32).toInt = 21
  · skip
    refine lv_tableIn (tgt := 182) (off := 178) hx hb dX9_readOne_4 (by omega) (by omega) (by rw [hq_4_21]; decide) (by decide) ?_
    exact B_182 cs x0 h _ _ _ hP hD hS (lv_sub hl [0] rfl)
  by_cases hq_4_22 : (v_11 : Int32).toInt = 22
  · skip
    refine lv_tableIn (tgt := 182) (off := 178) hx hb dX9_readOne_4 (by omega) (by omega) (by rw [hq_4_22]; decide) (by decide) ?_
    exact B_182 cs x0 h _ _ _ hP hD hS (lv_sub hl [0] rfl)
  by_cases hq_4_23 : (v_11 : Int32).toInt = 23
  · skip
    refine lv_tableIn (tgt := 182) (off := 178) hx hb dX9_readOne_4 (by omega) (by omega) (by rw [hq_4_23]; decide) (by decide) ?_
    exact B_182 cs x0 h _ _ _ hP hD hS (lv_sub hl [0] rfl)
  by_cases hq_4_24 : (v_11 : Int32).toInt = 24
  · skip
    refine lv_tableIn (tgt := 182) (off := 178) hx hb dX9_readOne_4 (by omega) (by omega) (by rw [hq_4_24]; decide) (by decide) ?_
    exact B_182 cs x0 h _ _ _ hP hD hS (lv_sub hl [0] rfl)
  by_cases hq_4_25 : (v_11 : Int32).toInt = 25
  · skip
    refine lv_tableIn (tgt := 182) (off := 178) hx hb dX9_readOne_4 (by omega) (by omega) (by rw [hq_4_25]; decide) (by decide) ?_
    exact B_182 cs x0 h _ _ _ hP hD hS (lv_sub hl [0] rfl)
  by_cases hq_4_27 : (v_11 : Int32).toInt = 27
  · skip
    refine lv_tableIn (tgt := 182) (off := 178) hx hb dX9_readOne_4 (by omega) (by omega) (by rw [hq_4_27]; decide) (by decide) ?_
    exact B_182 cs x0 h _ _ _ hP hD hS (lv_sub hl [0] rfl)
  by_cases hq_4_28 : (v_11 : Int32).toInt = 28
  · skip
    refine lv_tableIn (tgt := 182) (off := 178) hx hb dX9_readOne_4 (by omega) (by omega) (by rw [hq_4_28]; decide) (by decide) ?_
    exact B_182 cs x0 h _ _ _ hP hD hS (lv_sub hl [0] rfl)
  by_cases hq_4_29 : (v_11 : Int32).toInt = 29
  · skip
    refine lv_tableIn (tgt := 182) (off := 178) hx hb dX9_readOne_4 (by omega) (by omega) (by rw [hq_4_29]; decide) (by decide) ?_
    exact B_182 cs x0 h _ _ _ hP hD hS (lv_sub hl [0] rfl)
  by_cases hq_4_37 : (v_11 : Int32).toInt = 37
  · skip
    refine lv_tableIn (tgt := 182) (off := 178) hx hb dX9_readOne_4 (by omega) (by omega) (by rw [hq_4_37]; decide) (by decide) ?_
    exact B_182 cs x0 h _ _ _ hP hD hS (lv_sub hl [0] rfl)
  exfalso
  omega
set_option maxHeartbeats 4000000 in
set_option maxRecDepth 100000 in
theorem sbc_X9_readCase (l : Launch) (dC : Nat → ClassId) (dI : Nat → Nat → Nat) (cB cI cJ cZ cS cO : ClassId) (b : Nat) (K V : Nat → Nat) (fz : Value) (F : Nat) (n : Nat) (T : TC_X9_readExpr) (hT_X9_readExpr : ∀ (cs : CS) (x0 : Nat) (cs9 : CS) (r9 : Int32), T.1 cs x0 = some (cs9, r9) → ocI l dC dI cB cI cJ cZ cS cO b K V fz yX9_readExpr (wsOf yX9_readExpr cX9_readExpr 5 (some .int)) (n + 3) [.ref (b + x0)] cs cs9 r9) (hT_X9_readConjunction : ∀ (cs : CS) (x0 : Nat) (cs9 : CS), T.2.1 cs x0 = some cs9 → ocV l dC dI cB cI cJ cZ cS cO b K V fz yX9_readConjunction (wsOf yX9_readConjunction cX9_readConjunction 5 none) (n + 3) [.ref (b + x0)] cs cs9) (hT_X9_readNegation : ∀ (cs : CS) (x0 : Nat) (cs9 : CS), T.2.2.1 cs x0 = some cs9 → ocV l dC dI cB cI cJ cZ cS cO b K V fz yX9_readNegation (wsOf yX9_readNegation cX9_readNegation 3 none) (n + 3) [.ref (b + x0)] cs cs9) (hT_X9_readTest : ∀ (cs : CS) (x0 : Nat) (cs9 : CS), T.2.2.2.1 cs x0 = some cs9 → ocV l dC dI cB cI cJ cZ cS cO b K V fz yX9_readTest (wsOf yX9_readTest cX9_readTest 6 none) (n + 3) [.ref (b + x0)] cs cs9) (hT_X9_readSum : ∀ (cs : CS) (x0 : Nat) (cs9 : CS), T.2.2.2.2.1 cs x0 = some cs9 → ocV l dC dI cB cI cJ cZ cS cO b K V fz yX9_readSum (wsOf yX9_readSum cX9_readSum 6 none) (n + 3) [.ref (b + x0)] cs cs9) (hT_X9_readPart : ∀ (cs : CS) (x0 : Nat) (cs9 : CS), T.2.2.2.2.2.1 cs x0 = some cs9 → ocV l dC dI cB cI cJ cZ cS cO b K V fz yX9_readPart (wsOf yX9_readPart cX9_readPart 6 none) (n + 3) [.ref (b + x0)] cs cs9) (hT_X9_readSign : ∀ (cs : CS) (x0 : Nat) (cs9 : CS), T.2.2.2.2.2.2.1 cs x0 = some cs9 → ocV l dC dI cB cI cJ cZ cS cO b K V fz yX9_readSign (wsOf yX9_readSign cX9_readSign 3 none) (n + 3) [.ref (b + x0)] cs cs9) (hT_X9_readOne : ∀ (cs : CS) (x0 : Nat) (cs9 : CS), T.2.2.2.2.2.2.2.1 cs x0 = some cs9 → ocV l dC dI cB cI cJ cZ cS cO b K V fz yX9_readOne (wsOf yX9_readOne cX9_readOne 1 none) (n + 3) [.ref (b + x0)] cs cs9) (hT_X9_readCase : ∀ (cs : CS) (x0 : Nat) (cs9 : CS), T.2.2.2.2.2.2.2.2.1 cs x0 = some cs9 → ocV l dC dI cB cI cJ cZ cS cO b K V fz yX9_readCase (wsOf yX9_readCase cX9_readCase 3 none) (n + 3) [.ref (b + x0)] cs cs9) (hT_X9_readSpan : ∀ (cs : CS) (x0 : Nat) (cs9 : CS), T.2.2.2.2.2.2.2.2.2.1 cs x0 = some cs9 → ocV l dC dI cB cI cJ cZ cS cO b K V fz yX9_readSpan (wsOf yX9_readSpan cX9_readSpan 3 none) (n + 3) [.ref (b + x0)] cs cs9) (hT_X9_readAggregate : ∀ (cs : CS) (x0 : Nat) (cs9 : CS), T.2.2.2.2.2.2.2.2.2.2.1 cs x0 = some cs9 → ocV l dC dI cB cI cJ cZ cS cO b K V fz yX9_readAggregate (wsOf yX9_readAggregate cX9_readAggregate 7 none) (n + 3) [.ref (b + x0)] cs cs9) (hT_X9_readList : ∀ (cs : CS) (x0 : Nat) (x1 : Int32) (x2 : Int32) (x3 : Int32) (x4 : Int32) (cs9 : CS), T.2.2.2.2.2.2.2.2.2.2.2 cs x0 x1 x2 x3 x4 = some cs9 → ocV l dC dI cB cI cJ cZ cS cO b K V fz yX9_readList (wsOf yX9_readList cX9_readList 8 none) (n + 3) [.ref (b + x0), .int x1, .int x2, .int x3, .int x4] cs cs9) (cs : CS) (x0 : Nat) (cs9 : CS) (hf : cb_X9_readCase F T cs x0 = some cs9) : ocV l dC dI cB cI cJ cZ cS cO b K V fz yX9_readCase (wsOf yX9_readCase cX9_readCase 3 none) (n + 1 + 3) [.ref (b + x0)] cs cs9 := by
  intro sz
  refine Met.ofW (cc := cX9_readCase) (maxL := 3) (ret := none) (by decide) rfl ?_
  intro p e s m args below meth c s₁ B hml hv
  obtain ⟨rfl, hsz, hP, hK, hD0, hZ⟩ := hv
  have hx := B.exec
  have hb := B.bytes
  have hr := B.returns
  have hts := atoms_spec (ws := (wsOf yX9_readCase cX9_readCase 3 none)) B.pre
  have hown : s.vm.findClass RX9 = some m.cls := findClass_of_methodNamed B.named
  have hlocks := B.notSynchronized
  subst hsz
  have hD := hD0.self (sz := s.heap.size)
  generalize hAe : va_A (cW cB cI cJ cZ cS cO b cs) s.heap.size = A at hD hZ ⊢
  have hA : ∀ q : Nat, s.heap.size ≤ q → A q := fun q h => by rw [← hAe]; exact Or.inr h
  have hS : va_S A s.heap s.heap [] := va_S.rf
  have hl := lv_entry ([.ref (b + x0)]) (n := 3) (Nat.le_of_ble_eq_true rfl)
  rw [lg_entry_eq]
  generalize (lg_sl ([.ref (b + x0)]) ++ List.replicate (3 - (lg_sl ([.ref (b + x0)])).length) Slot.unset).toArray = ls at hl ⊢
  have hl : lv_has ls 3 [(0, .ref (b + x0))] := hl
  have h := hf
  unfold cb_X9_readCase at h
  refine lv_aload_n hx hb dX9_readCase_0 rfl (lv_at hl 0 rfl) ?_
  replace h := ob h; obtain ⟨v_1, hv_1, h⟩ := h
  refine fg_X9_26 hx hb hts hown hK hP hv_1 dX9_readCase_1 ?_
  replace h := ob h; obtain ⟨i_2, hi_2, h⟩ := h
  subst hi_2
  replace h := ob h; obtain ⟨v_3, hv_3, h⟩ := h
  refine fg_X9_296 hx hb hts hown hK hP hv_3 dX9_readCase_4 ?_
  refine lv_istore_n (lv' := [(1, .int v_3), (0, .ref (b + x0))]) hx hb dX9_readCase_7 rfl hl (by decide) rfl (fun ls hl => ?_)
  refine lv_aload_n hx hb dX9_readCase_8 rfl (lv_at hl 1 rfl) ?_
  replace h := ob h; obtain ⟨w_5, hw_5, h⟩ := h
  replace h := ob h; obtain ⟨v_4, hv_4, h⟩ := h
  refine ccI (As := []) hx hb hml hts hown hK hP hD hS hA hZ (X := 10) (by decide) rfl (ckE_some hw_5) (sc_X9_here l dC dI cB cI cJ cZ cS cO b K V fz F cs x0 v_4 hv_4) (cw_X9_X9_here hts (fr := 0) (by show 0 + 1 ≤ n + 1 + 3; omega) (by show 8 + (1 + 11) + 60 * (0) ≤ 60 * (n + 1 + 3); omega)) rfl hl.1 (Nat.le_of_ble_eq_true rfl) ⟨Nat.zero_le _, Nat.zero_le _⟩ dX9_readCase_9 (fun H locs hP hD hS => ?_)
  refine lv_istore_n (lv' := [(2, .int v_4), (1, .int v_3), (0, .ref (b + x0))]) hx hb dX9_readCase_12 rfl hl (by decide) rfl (fun ls hl => ?_)
  refine lv_aload_n hx hb dX9_readCase_13 rfl (lv_at hl 2 rfl) ?_
  replace h := ob h; obtain ⟨w_7, hw_7, h⟩ := h
  replace h := ob h; obtain ⟨cs_6, hv_6, h⟩ := h
  refine ccV (As := []) hx hb hml hts hown hK hP hD hS hA hZ (X := 10) (by decide) rfl (ckE_some hw_7) (sc_X9_deepen l dC dI cB cI cJ cZ cS cO b K V fz F cs x0 cs_6 hv_6) (cw_X9_X9_deepen hts (fr := 1) (by show 1 + 1 ≤ n + 1 + 3; omega) (by show 8 + (1 + 11) + 60 * (1) ≤ 60 * (n + 1 + 3); omega)) rfl hl.1 (Nat.le_of_ble_eq_true rfl) ⟨Nat.zero_le _, Nat.zero_le _⟩ dX9_readCase_14 (fun H locs hP hD hS => ?_)
  refine lv_aload_n hx hb dX9_readCase_17 rfl (lv_at hl 2 rfl) ?_
  refine lv_bipush (v := 19) hx hb dX9_readCase_18 (by decide) ?_
  replace h := ob h; obtain ⟨w_9, hw_9, h⟩ := h
  replace h := ob h; obtain ⟨z_8, hv_8, h⟩ := h
  refine ccI (As := [.int 19]) hx hb hml hts hown hK hP hD hS hA hZ (X := 10) (by decide) rfl (ckE_some hw_9) (sc_X9_accept l dC dI cB cI cJ cZ cS cO b K V fz F cs_6 x0 19 z_8.1 z_8.2 hv_8) (cw_X9_X9_accept hts (fr := 1) (by show 1 + 1 ≤ n + 1 + 3; omega) (by show 8 + (3 + 11) + 60 * (1) ≤ 60 * (n + 1 + 3); omega)) rfl hl.1 (Nat.le_of_ble_eq_true rfl) ⟨Nat.zero_le _, Nat.zero_le _⟩ dX9_readCase_20 (fun H locs hP hD hS => ?_)
  refine lv_pop hx hb dX9_readCase_23 rfl ?_
  refine lv_aload_n hx hb dX9_readCase_24 rfl (lv_at hl 2 rfl) ?_
  refine lv_bipush (v := 20) hx hb dX9_readCase_25 (by decide) ?_
  replace h := ob h; obtain ⟨w_11, hw_11, h⟩ := h
  replace h := ob h; obtain ⟨cs_10, hv_10, h⟩ := h
  refine ccV (As := [.int 20]) hx hb hml hts hown hK hP hD hS hA hZ (X := 10) (by decide) rfl (ckE_some hw_11) (sc_X9_expect l dC dI cB cI cJ cZ cS cO b K V fz F z_8.1 x0 20 cs_10 hv_10) (cw_X9_X9_expect hts (fr := 1) (by show 1 + 1 ≤ n + 1 + 3; omega) (by show 8 + (2 + 11) + 60 * (1) ≤ 60 * (n + 1 + 3); omega)) rfl hl.1 (Nat.le_of_ble_eq_true rfl) ⟨Nat.zero_le _, Nat.zero_le _⟩ dX9_readCase_27 (fun H locs hP hD hS => ?_)
  refine lv_aload_n hx hb dX9_readCase_30 rfl (lv_at hl 2 rfl) ?_
  replace h := ob h; obtain ⟨w_13, hw_13, h⟩ := h
  replace h := ob h; obtain ⟨z_12, hv_12, h⟩ := h
  refine ccI (As := []) hx hb hml hts hown hK hP hD hS hA hZ (X := 10) (by decide) rfl (ckE_some hw_13) (hT_X9_readExpr cs_10 x0 z_12.1 z_12.2 hv_12) (cw_X9_X9_readExpr hts (fr := n + 3) (by show n + 3 + 1 ≤ n + 1 + 3; omega) (by show 8 + (5 + 11) + 60 * (n + 3) ≤ 60 * (n + 1 + 3); omega)) rfl hl.1 (Nat.le_of_ble_eq_true rfl) ⟨Nat.zero_le _, Nat.zero_le _⟩ dX9_readCase_31 (fun H locs hP hD hS => ?_)
  refine lv_pop hx hb dX9_readCase_34 rfl ?_
  refine lv_aload_n hx hb dX9_readCase_35 rfl (lv_at hl 2 rfl) ?_
  refine lv_bipush (v := 21) hx hb dX9_readCase_36 (by decide) ?_
  replace h := ob h; obtain ⟨w_15, hw_15, h⟩ := h
  replace h := ob h; obtain ⟨cs_14, hv_14, h⟩ := h
  refine ccV (As := [.int 21]) hx hb hml hts hown hK hP hD hS hA hZ (X := 10) (by decide) rfl (ckE_some hw_15) (sc_X9_expect l dC dI cB cI cJ cZ cS cO b K V fz F z_12.1 x0 21 cs_14 hv_14) (cw_X9_X9_expect hts (fr := 1) (by show 1 + 1 ≤ n + 1 + 3; omega) (by show 8 + (2 + 11) + 60 * (1) ≤ 60 * (n + 1 + 3); omega)) rfl hl.1 (Nat.le_of_ble_eq_true rfl) ⟨Nat.zero_le _, Nat.zero_le _⟩ dX9_readCase_38 (fun H locs hP hD hS => ?_)
  refine lv_aload_n hx hb dX9_readCase_41 rfl (lv_at hl 2 rfl) ?_
  replace h := ob h; obtain ⟨w_17, hw_17, h⟩ := h
  replace h := ob h; obtain ⟨z_16, hv_16, h⟩ := h
  refine ccI (As := []) hx hb hml hts hown hK hP hD hS hA hZ (X := 10) (by decide) rfl (ckE_some hw_17) (hT_X9_readExpr cs_14 x0 z_16.1 z_16.2 hv_16) (cw_X9_X9_readExpr hts (fr := n + 3) (by show n + 3 + 1 ≤ n + 1 + 3; omega) (by show 8 + (5 + 11) + 60 * (n + 3) ≤ 60 * (n + 1 + 3); omega)) rfl hl.1 (Nat.le_of_ble_eq_true rfl) ⟨Nat.zero_le _, Nat.zero_le _⟩ dX9_readCase_42 (fun H locs hP hD hS => ?_)
  refine lv_pop hx hb dX9_readCase_45 rfl ?_
  refine lv_aload_n hx hb dX9_readCase_46 rfl (lv_at hl 2 rfl) ?_
  refine lv_bipush (v := 22) hx hb dX9_readCase_47 (by decide) ?_
  replace h := ob h; obtain ⟨w_19, hw_19, h⟩ := h
  replace h := ob h; obtain ⟨cs_18, hv_18, h⟩ := h
  refine ccV (As := [.int 22]) hx hb hml hts hown hK hP hD hS hA hZ (X := 10) (by decide) rfl (ckE_some hw_19) (sc_X9_expect l dC dI cB cI cJ cZ cS cO b K V fz F z_16.1 x0 22 cs_18 hv_18) (cw_X9_X9_expect hts (fr := 1) (by show 1 + 1 ≤ n + 1 + 3; omega) (by show 8 + (2 + 11) + 60 * (1) ≤ 60 * (n + 1 + 3); omega)) rfl hl.1 (Nat.le_of_ble_eq_true rfl) ⟨Nat.zero_le _, Nat.zero_le _⟩ dX9_readCase_49 (fun H locs hP hD hS => ?_)
  refine lv_aload_n hx hb dX9_readCase_52 rfl (lv_at hl 2 rfl) ?_
  replace h := ob h; obtain ⟨w_21, hw_21, h⟩ := h
  replace h := ob h; obtain ⟨z_20, hv_20, h⟩ := h
  refine ccI (As := []) hx hb hml hts hown hK hP hD hS hA hZ (X := 10) (by decide) rfl (ckE_some hw_21) (hT_X9_readExpr cs_18 x0 z_20.1 z_20.2 hv_20) (cw_X9_X9_readExpr hts (fr := n + 3) (by show n + 3 + 1 ≤ n + 1 + 3; omega) (by show 8 + (5 + 11) + 60 * (n + 3) ≤ 60 * (n + 1 + 3); omega)) rfl hl.1 (Nat.le_of_ble_eq_true rfl) ⟨Nat.zero_le _, Nat.zero_le _⟩ dX9_readCase_53 (fun H locs hP hD hS => ?_)
  refine lv_pop hx hb dX9_readCase_56 rfl ?_
  refine lv_aload_n hx hb dX9_readCase_57 rfl (lv_at hl 2 rfl) ?_
  refine lv_bipush (v := 23) hx hb dX9_readCase_58 (by decide) ?_
  replace h := ob h; obtain ⟨w_23, hw_23, h⟩ := h
  replace h := ob h; obtain ⟨cs_22, hv_22, h⟩ := h
  refine ccV (As := [.int 23]) hx hb hml hts hown hK hP hD hS hA hZ (X := 10) (by decide) rfl (ckE_some hw_23) (sc_X9_expect l dC dI cB cI cJ cZ cS cO b K V fz F z_20.1 x0 23 cs_22 hv_22) (cw_X9_X9_expect hts (fr := 1) (by show 1 + 1 ≤ n + 1 + 3; omega) (by show 8 + (2 + 11) + 60 * (1) ≤ 60 * (n + 1 + 3); omega)) rfl hl.1 (Nat.le_of_ble_eq_true rfl) ⟨Nat.zero_le _, Nat.zero_le _⟩ dX9_readCase_60 (fun H locs hP hD hS => ?_)
  refine lv_aload_n hx hb dX9_readCase_63 rfl (lv_at hl 2 rfl) ?_
  refine lv_dup hx hb dX9_readCase_64 rfl ?_
  replace h := ob h; obtain ⟨v_24, hv_24, h⟩ := h
  refine fg_X9_275 hx hb hts hown hK hP hv_24 dX9_readCase_65 ?_
  refine lv_iconst (v := 1) hx hb dX9_readCase_68 (by decide) ?_
  refine lv_isub hx hb dX9_readCase_69 ?_
  replace h := ob h; obtain ⟨cs_25, hv_25, h⟩ := h
  refine fp_X9_275 hx hb hts hown hK hP hD hS hv_25 dX9_readCase_70 (fun H locs hP hD hS => ?_)
  refine lv_aload_n hx hb dX9_readCase_73 rfl (lv_at hl 2 rfl) ?_
  refine lv_bipush (v := 19) hx hb dX9_readCase_74 (by decide) ?_
  refine lv_iload_n hx hb dX9_readCase_76 rfl (lv_at hl 1 rfl) ?_
  refine lv_iload_n hx hb dX9_readCase_77 rfl (lv_at hl 0 rfl) ?_
  refine lv_iload_n hx hb dX9_readCase_78 rfl (lv_at hl 0 rfl) ?_
  refine lv_iconst (v := 3) hx hb dX9_readCase_79 (by decide) ?_
  replace h := ob h; obtain ⟨w_27, hw_27, h⟩ := h
  replace h := ob h; obtain ⟨z_26, hv_26, h⟩ := h
  refine ccI (As := [.int 19, .int v_3, .int v_4, .int v_4, .int 3]) hx hb hml hts hown hK hP hD hS hA hZ (X := 10) (by decide) rfl (ckE_some hw_27) (sc_X9_complete l dC dI cB cI cJ cZ cS cO b K V fz F cs_25 x0 19 v_3 v_4 v_4 3 z_26.1 z_26.2 hv_26) (cw_X9_X9_complete hts (fr := 1) (by show 1 + 1 ≤ n + 1 + 3; omega) (by show 8 + (6 + 11) + 60 * (1) ≤ 60 * (n + 1 + 3); omega)) rfl hl.1 (Nat.le_of_ble_eq_true rfl) ⟨Nat.zero_le _, Nat.zero_le _⟩ dX9_readCase_80 (fun H locs hP hD hS => ?_)
  refine lv_pop hx hb dX9_readCase_83 rfl ?_
  have e1 := Option.some.inj h
  rw [e1] at hP hD
  exact W.vret hx hb hr (fun t_ ht hW => ⟨⟨(), rfl, trivial, by rw [ht]; exact hP, hD⟩, hS.F ht⟩) hS.2.2 dX9_readCase_84
set_option maxHeartbeats 4000000 in
set_option maxRecDepth 100000 in
theorem sbc_X9_readSpan (l : Launch) (dC : Nat → ClassId) (dI : Nat → Nat → Nat) (cB cI cJ cZ cS cO : ClassId) (b : Nat) (K V : Nat → Nat) (fz : Value) (F : Nat) (n : Nat) (T : TC_X9_readExpr) (hT_X9_readExpr : ∀ (cs : CS) (x0 : Nat) (cs9 : CS) (r9 : Int32), T.1 cs x0 = some (cs9, r9) → ocI l dC dI cB cI cJ cZ cS cO b K V fz yX9_readExpr (wsOf yX9_readExpr cX9_readExpr 5 (some .int)) (n + 3) [.ref (b + x0)] cs cs9 r9) (hT_X9_readConjunction : ∀ (cs : CS) (x0 : Nat) (cs9 : CS), T.2.1 cs x0 = some cs9 → ocV l dC dI cB cI cJ cZ cS cO b K V fz yX9_readConjunction (wsOf yX9_readConjunction cX9_readConjunction 5 none) (n + 3) [.ref (b + x0)] cs cs9) (hT_X9_readNegation : ∀ (cs : CS) (x0 : Nat) (cs9 : CS), T.2.2.1 cs x0 = some cs9 → ocV l dC dI cB cI cJ cZ cS cO b K V fz yX9_readNegation (wsOf yX9_readNegation cX9_readNegation 3 none) (n + 3) [.ref (b + x0)] cs cs9) (hT_X9_readTest : ∀ (cs : CS) (x0 : Nat) (cs9 : CS), T.2.2.2.1 cs x0 = some cs9 → ocV l dC dI cB cI cJ cZ cS cO b K V fz yX9_readTest (wsOf yX9_readTest cX9_readTest 6 none) (n + 3) [.ref (b + x0)] cs cs9) (hT_X9_readSum : ∀ (cs : CS) (x0 : Nat) (cs9 : CS), T.2.2.2.2.1 cs x0 = some cs9 → ocV l dC dI cB cI cJ cZ cS cO b K V fz yX9_readSum (wsOf yX9_readSum cX9_readSum 6 none) (n + 3) [.ref (b + x0)] cs cs9) (hT_X9_readPart : ∀ (cs : CS) (x0 : Nat) (cs9 : CS), T.2.2.2.2.2.1 cs x0 = some cs9 → ocV l dC dI cB cI cJ cZ cS cO b K V fz yX9_readPart (wsOf yX9_readPart cX9_readPart 6 none) (n + 3) [.ref (b + x0)] cs cs9) (hT_X9_readSign : ∀ (cs : CS) (x0 : Nat) (cs9 : CS), T.2.2.2.2.2.2.1 cs x0 = some cs9 → ocV l dC dI cB cI cJ cZ cS cO b K V fz yX9_readSign (wsOf yX9_readSign cX9_readSign 3 none) (n + 3) [.ref (b + x0)] cs cs9) (hT_X9_readOne : ∀ (cs : CS) (x0 : Nat) (cs9 : CS), T.2.2.2.2.2.2.2.1 cs x0 = some cs9 → ocV l dC dI cB cI cJ cZ cS cO b K V fz yX9_readOne (wsOf yX9_readOne cX9_readOne 1 none) (n + 3) [.ref (b + x0)] cs cs9) (hT_X9_readCase : ∀ (cs : CS) (x0 : Nat) (cs9 : CS), T.2.2.2.2.2.2.2.2.1 cs x0 = some cs9 → ocV l dC dI cB cI cJ cZ cS cO b K V fz yX9_readCase (wsOf yX9_readCase cX9_readCase 3 none) (n + 3) [.ref (b + x0)] cs cs9) (hT_X9_readSpan : ∀ (cs : CS) (x0 : Nat) (cs9 : CS), T.2.2.2.2.2.2.2.2.2.1 cs x0 = some cs9 → ocV l dC dI cB cI cJ cZ cS cO b K V fz yX9_readSpan (wsOf yX9_readSpan cX9_readSpan 3 none) (n + 3) [.ref (b + x0)] cs cs9) (hT_X9_readAggregate : ∀ (cs : CS) (x0 : Nat) (cs9 : CS), T.2.2.2.2.2.2.2.2.2.2.1 cs x0 = some cs9 → ocV l dC dI cB cI cJ cZ cS cO b K V fz yX9_readAggregate (wsOf yX9_readAggregate cX9_readAggregate 7 none) (n + 3) [.ref (b + x0)] cs cs9) (hT_X9_readList : ∀ (cs : CS) (x0 : Nat) (x1 : Int32) (x2 : Int32) (x3 : Int32) (x4 : Int32) (cs9 : CS), T.2.2.2.2.2.2.2.2.2.2.2 cs x0 x1 x2 x3 x4 = some cs9 → ocV l dC dI cB cI cJ cZ cS cO b K V fz yX9_readList (wsOf yX9_readList cX9_readList 8 none) (n + 3) [.ref (b + x0), .int x1, .int x2, .int x3, .int x4] cs cs9) (cs : CS) (x0 : Nat) (cs9 : CS) (hf : cb_X9_readSpan F T cs x0 = some cs9) : ocV l dC dI cB cI cJ cZ cS cO b K V fz yX9_readSpan (wsOf yX9_readSpan cX9_readSpan 3 none) (n + 1 + 3) [.ref (b + x0)] cs cs9 := by
  intro sz
  refine Met.ofW (cc := cX9_readSpan) (maxL := 3) (ret := none) (by decide) rfl ?_
  intro p e s m args below meth c s₁ B hml hv
  obtain ⟨rfl, hsz, hP, hK, hD0, hZ⟩ := hv
  have hx := B.exec
  have hb := B.bytes
  have hr := B.returns
  have hts := atoms_spec (ws := (wsOf yX9_readSpan cX9_readSpan 3 none)) B.pre
  have hown : s.vm.findClass RX9 = some m.cls := findClass_of_methodNamed B.named
  have hlocks := B.notSynchronized
  subst hsz
  have hD := hD0.self (sz := s.heap.size)
  generalize hAe : va_A (cW cB cI cJ cZ cS cO b cs) s.heap.size = A at hD hZ ⊢
  have hA : ∀ q : Nat, s.heap.size ≤ q → A q := fun q h => by rw [← hAe]; exact Or.inr h
  have hS : va_S A s.heap s.heap [] := va_S.rf
  have hl := lv_entry ([.ref (b + x0)]) (n := 3) (Nat.le_of_ble_eq_true rfl)
  rw [lg_entry_eq]
  generalize (lg_sl ([.ref (b + x0)]) ++ List.replicate (3 - (lg_sl ([.ref (b + x0)])).length) Slot.unset).toArray = ls at hl ⊢
  have hl : lv_has ls 3 [(0, .ref (b + x0))] := hl
  have h := hf
  unfold cb_X9_readSpan at h
  refine lv_aload_n hx hb dX9_readSpan_0 rfl (lv_at hl 0 rfl) ?_
  replace h := ob h; obtain ⟨v_1, hv_1, h⟩ := h
  refine fg_X9_26 hx hb hts hown hK hP hv_1 dX9_readSpan_1 ?_
  replace h := ob h; obtain ⟨i_2, hi_2, h⟩ := h
  subst hi_2
  replace h := ob h; obtain ⟨v_3, hv_3, h⟩ := h
  refine fg_X9_296 hx hb hts hown hK hP hv_3 dX9_readSpan_4 ?_
  refine lv_istore_n (lv' := [(1, .int v_3), (0, .ref (b + x0))]) hx hb dX9_readSpan_7 rfl hl (by decide) rfl (fun ls hl => ?_)
  refine lv_aload_n hx hb dX9_readSpan_8 rfl (lv_at hl 1 rfl) ?_
  replace h := ob h; obtain ⟨w_5, hw_5, h⟩ := h
  replace h := ob h; obtain ⟨v_4, hv_4, h⟩ := h
  refine ccI (As := []) hx hb hml hts hown hK hP hD hS hA hZ (X := 10) (by decide) rfl (ckE_some hw_5) (sc_X9_here l dC dI cB cI cJ cZ cS cO b K V fz F cs x0 v_4 hv_4) (cw_X9_X9_here hts (fr := 0) (by show 0 + 1 ≤ n + 1 + 3; omega) (by show 8 + (1 + 11) + 60 * (0) ≤ 60 * (n + 1 + 3); omega)) rfl hl.1 (Nat.le_of_ble_eq_true rfl) ⟨Nat.zero_le _, Nat.zero_le _⟩ dX9_readSpan_9 (fun H locs hP hD hS => ?_)
  refine lv_istore_n (lv' := [(2, .int v_4), (1, .int v_3), (0, .ref (b + x0))]) hx hb dX9_readSpan_12 rfl hl (by decide) rfl (fun ls hl => ?_)
  refine lv_aload_n hx hb dX9_readSpan_13 rfl (lv_at hl 2 rfl) ?_
  replace h := ob h; obtain ⟨w_7, hw_7, h⟩ := h
  replace h := ob h; obtain ⟨cs_6, hv_6, h⟩ := h
  refine ccV (As := []) hx hb hml hts hown hK hP hD hS hA hZ (X := 10) (by decide) rfl (ckE_some hw_7) (sc_X9_deepen l dC dI cB cI cJ cZ cS cO b K V fz F cs x0 cs_6 hv_6) (cw_X9_X9_deepen hts (fr := 1) (by show 1 + 1 ≤ n + 1 + 3; omega) (by show 8 + (1 + 11) + 60 * (1) ≤ 60 * (n + 1 + 3); omega)) rfl hl.1 (Nat.le_of_ble_eq_true rfl) ⟨Nat.zero_le _, Nat.zero_le _⟩ dX9_readSpan_14 (fun H locs hP hD hS => ?_)
  refine lv_aload_n hx hb dX9_readSpan_17 rfl (lv_at hl 2 rfl) ?_
  refine lv_bipush (v := 36) hx hb dX9_readSpan_18 (by decide) ?_
  replace h := ob h; obtain ⟨w_9, hw_9, h⟩ := h
  replace h := ob h; obtain ⟨z_8, hv_8, h⟩ := h
  refine ccI (As := [.int 36]) hx hb hml hts hown hK hP hD hS hA hZ (X := 10) (by decide) rfl (ckE_some hw_9) (sc_X9_accept l dC dI cB cI cJ cZ cS cO b K V fz F cs_6 x0 36 z_8.1 z_8.2 hv_8) (cw_X9_X9_accept hts (fr := 1) (by show 1 + 1 ≤ n + 1 + 3; omega) (by show 8 + (3 + 11) + 60 * (1) ≤ 60 * (n + 1 + 3); omega)) rfl hl.1 (Nat.le_of_ble_eq_true rfl) ⟨Nat.zero_le _, Nat.zero_le _⟩ dX9_readSpan_20 (fun H locs hP hD hS => ?_)
  refine lv_pop hx hb dX9_readSpan_23 rfl ?_
  refine lv_aload_n hx hb dX9_readSpan_24 rfl (lv_at hl 2 rfl) ?_
  refine lv_bipush (v := 41) hx hb dX9_readSpan_25 (by decide) ?_
  replace h := ob h; obtain ⟨w_11, hw_11, h⟩ := h
  replace h := ob h; obtain ⟨cs_10, hv_10, h⟩ := h
  refine ccV (As := [.int 41]) hx hb hml hts hown hK hP hD hS hA hZ (X := 10) (by decide) rfl (ckE_some hw_11) (sc_X9_expect l dC dI cB cI cJ cZ cS cO b K V fz F z_8.1 x0 41 cs_10 hv_10) (cw_X9_X9_expect hts (fr := 1) (by show 1 + 1 ≤ n + 1 + 3; omega) (by show 8 + (2 + 11) + 60 * (1) ≤ 60 * (n + 1 + 3); omega)) rfl hl.1 (Nat.le_of_ble_eq_true rfl) ⟨Nat.zero_le _, Nat.zero_le _⟩ dX9_readSpan_27 (fun H locs hP hD hS => ?_)
  refine lv_aload_n hx hb dX9_readSpan_30 rfl (lv_at hl 2 rfl) ?_
  replace h := ob h; obtain ⟨w_13, hw_13, h⟩ := h
  replace h := ob h; obtain ⟨z_12, hv_12, h⟩ := h
  refine ccI (As := []) hx hb hml hts hown hK hP hD hS hA hZ (X := 10) (by decide) rfl (ckE_some hw_13) (hT_X9_readExpr cs_10 x0 z_12.1 z_12.2 hv_12) (cw_X9_X9_readExpr hts (fr := n + 3) (by show n + 3 + 1 ≤ n + 1 + 3; omega) (by show 8 + (5 + 11) + 60 * (n + 3) ≤ 60 * (n + 1 + 3); omega)) rfl hl.1 (Nat.le_of_ble_eq_true rfl) ⟨Nat.zero_le _, Nat.zero_le _⟩ dX9_readSpan_31 (fun H locs hP hD hS => ?_)
  refine lv_pop hx hb dX9_readSpan_34 rfl ?_
  refine lv_aload_n hx hb dX9_readSpan_35 rfl (lv_at hl 2 rfl) ?_
  refine lv_bipush (v := 43) hx hb dX9_readSpan_36 (by decide) ?_
  replace h := ob h; obtain ⟨w_15, hw_15, h⟩ := h
  replace h := ob h; obtain ⟨cs_14, hv_14, h⟩ := h
  refine ccV (As := [.int 43]) hx hb hml hts hown hK hP hD hS hA hZ (X := 10) (by decide) rfl (ckE_some hw_15) (sc_X9_expect l dC dI cB cI cJ cZ cS cO b K V fz F z_12.1 x0 43 cs_14 hv_14) (cw_X9_X9_expect hts (fr := 1) (by show 1 + 1 ≤ n + 1 + 3; omega) (by show 8 + (2 + 11) + 60 * (1) ≤ 60 * (n + 1 + 3); omega)) rfl hl.1 (Nat.le_of_ble_eq_true rfl) ⟨Nat.zero_le _, Nat.zero_le _⟩ dX9_readSpan_38 (fun H locs hP hD hS => ?_)
  refine lv_aload_n hx hb dX9_readSpan_41 rfl (lv_at hl 2 rfl) ?_
  replace h := ob h; obtain ⟨w_17, hw_17, h⟩ := h
  replace h := ob h; obtain ⟨z_16, hv_16, h⟩ := h
  refine ccI (As := []) hx hb hml hts hown hK hP hD hS hA hZ (X := 10) (by decide) rfl (ckE_some hw_17) (hT_X9_readExpr cs_14 x0 z_16.1 z_16.2 hv_16) (cw_X9_X9_readExpr hts (fr := n + 3) (by show n + 3 + 1 ≤ n + 1 + 3; omega) (by show 8 + (5 + 11) + 60 * (n + 3) ≤ 60 * (n + 1 + 3); omega)) rfl hl.1 (Nat.le_of_ble_eq_true rfl) ⟨Nat.zero_le _, Nat.zero_le _⟩ dX9_readSpan_42 (fun H locs hP hD hS => ?_)
  refine lv_pop hx hb dX9_readSpan_45 rfl ?_
  refine lv_aload_n hx hb dX9_readSpan_46 rfl (lv_at hl 2 rfl) ?_
  refine lv_bipush (v := 42) hx hb dX9_readSpan_47 (by decide) ?_
  replace h := ob h; obtain ⟨w_19, hw_19, h⟩ := h
  replace h := ob h; obtain ⟨cs_18, hv_18, h⟩ := h
  refine ccV (As := [.int 42]) hx hb hml hts hown hK hP hD hS hA hZ (X := 10) (by decide) rfl (ckE_some hw_19) (sc_X9_expect l dC dI cB cI cJ cZ cS cO b K V fz F z_16.1 x0 42 cs_18 hv_18) (cw_X9_X9_expect hts (fr := 1) (by show 1 + 1 ≤ n + 1 + 3; omega) (by show 8 + (2 + 11) + 60 * (1) ≤ 60 * (n + 1 + 3); omega)) rfl hl.1 (Nat.le_of_ble_eq_true rfl) ⟨Nat.zero_le _, Nat.zero_le _⟩ dX9_readSpan_49 (fun H locs hP hD hS => ?_)
  refine lv_aload_n hx hb dX9_readSpan_52 rfl (lv_at hl 2 rfl) ?_
  refine lv_dup hx hb dX9_readSpan_53 rfl ?_
  replace h := ob h; obtain ⟨v_20, hv_20, h⟩ := h
  refine fg_X9_275 hx hb hts hown hK hP hv_20 dX9_readSpan_54 ?_
  refine lv_iconst (v := 1) hx hb dX9_readSpan_57 (by decide) ?_
  refine lv_isub hx hb dX9_readSpan_58 ?_
  replace h := ob h; obtain ⟨cs_21, hv_21, h⟩ := h
  refine fp_X9_275 hx hb hts hown hK hP hD hS hv_21 dX9_readSpan_59 (fun H locs hP hD hS => ?_)
  refine lv_aload_n hx hb dX9_readSpan_62 rfl (lv_at hl 2 rfl) ?_
  refine lv_bipush (v := 36) hx hb dX9_readSpan_63 (by decide) ?_
  refine lv_iload_n hx hb dX9_readSpan_65 rfl (lv_at hl 1 rfl) ?_
  refine lv_iload_n hx hb dX9_readSpan_66 rfl (lv_at hl 0 rfl) ?_
  refine lv_iload_n hx hb dX9_readSpan_67 rfl (lv_at hl 0 rfl) ?_
  refine lv_iconst (v := 2) hx hb dX9_readSpan_68 (by decide) ?_
  replace h := ob h; obtain ⟨w_23, hw_23, h⟩ := h
  replace h := ob h; obtain ⟨z_22, hv_22, h⟩ := h
  refine ccI (As := [.int 36, .int v_3, .int v_4, .int v_4, .int 2]) hx hb hml hts hown hK hP hD hS hA hZ (X := 10) (by decide) rfl (ckE_some hw_23) (sc_X9_complete l dC dI cB cI cJ cZ cS cO b K V fz F cs_21 x0 36 v_3 v_4 v_4 2 z_22.1 z_22.2 hv_22) (cw_X9_X9_complete hts (fr := 1) (by show 1 + 1 ≤ n + 1 + 3; omega) (by show 8 + (6 + 11) + 60 * (1) ≤ 60 * (n + 1 + 3); omega)) rfl hl.1 (Nat.le_of_ble_eq_true rfl) ⟨Nat.zero_le _, Nat.zero_le _⟩ dX9_readSpan_69 (fun H locs hP hD hS => ?_)
  refine lv_pop hx hb dX9_readSpan_72 rfl ?_
  have e1 := Option.some.inj h
  rw [e1] at hP hD
  exact W.vret hx hb hr (fun t_ ht hW => ⟨⟨(), rfl, trivial, by rw [ht]; exact hP, hD⟩, hS.F ht⟩) hS.2.2 dX9_readSpan_73
set_option maxHeartbeats 4000000 in
set_option maxRecDepth 100000 in
theorem sbc_X9_readAggregate (l : Launch) (dC : Nat → ClassId) (dI : Nat → Nat → Nat) (cB cI cJ cZ cS cO : ClassId) (b : Nat) (K V : Nat → Nat) (fz : Value) (F : Nat) (n : Nat) (T : TC_X9_readExpr) (hT_X9_readExpr : ∀ (cs : CS) (x0 : Nat) (cs9 : CS) (r9 : Int32), T.1 cs x0 = some (cs9, r9) → ocI l dC dI cB cI cJ cZ cS cO b K V fz yX9_readExpr (wsOf yX9_readExpr cX9_readExpr 5 (some .int)) (n + 3) [.ref (b + x0)] cs cs9 r9) (hT_X9_readConjunction : ∀ (cs : CS) (x0 : Nat) (cs9 : CS), T.2.1 cs x0 = some cs9 → ocV l dC dI cB cI cJ cZ cS cO b K V fz yX9_readConjunction (wsOf yX9_readConjunction cX9_readConjunction 5 none) (n + 3) [.ref (b + x0)] cs cs9) (hT_X9_readNegation : ∀ (cs : CS) (x0 : Nat) (cs9 : CS), T.2.2.1 cs x0 = some cs9 → ocV l dC dI cB cI cJ cZ cS cO b K V fz yX9_readNegation (wsOf yX9_readNegation cX9_readNegation 3 none) (n + 3) [.ref (b + x0)] cs cs9) (hT_X9_readTest : ∀ (cs : CS) (x0 : Nat) (cs9 : CS), T.2.2.2.1 cs x0 = some cs9 → ocV l dC dI cB cI cJ cZ cS cO b K V fz yX9_readTest (wsOf yX9_readTest cX9_readTest 6 none) (n + 3) [.ref (b + x0)] cs cs9) (hT_X9_readSum : ∀ (cs : CS) (x0 : Nat) (cs9 : CS), T.2.2.2.2.1 cs x0 = some cs9 → ocV l dC dI cB cI cJ cZ cS cO b K V fz yX9_readSum (wsOf yX9_readSum cX9_readSum 6 none) (n + 3) [.ref (b + x0)] cs cs9) (hT_X9_readPart : ∀ (cs : CS) (x0 : Nat) (cs9 : CS), T.2.2.2.2.2.1 cs x0 = some cs9 → ocV l dC dI cB cI cJ cZ cS cO b K V fz yX9_readPart (wsOf yX9_readPart cX9_readPart 6 none) (n + 3) [.ref (b + x0)] cs cs9) (hT_X9_readSign : ∀ (cs : CS) (x0 : Nat) (cs9 : CS), T.2.2.2.2.2.2.1 cs x0 = some cs9 → ocV l dC dI cB cI cJ cZ cS cO b K V fz yX9_readSign (wsOf yX9_readSign cX9_readSign 3 none) (n + 3) [.ref (b + x0)] cs cs9) (hT_X9_readOne : ∀ (cs : CS) (x0 : Nat) (cs9 : CS), T.2.2.2.2.2.2.2.1 cs x0 = some cs9 → ocV l dC dI cB cI cJ cZ cS cO b K V fz yX9_readOne (wsOf yX9_readOne cX9_readOne 1 none) (n + 3) [.ref (b + x0)] cs cs9) (hT_X9_readCase : ∀ (cs : CS) (x0 : Nat) (cs9 : CS), T.2.2.2.2.2.2.2.2.1 cs x0 = some cs9 → ocV l dC dI cB cI cJ cZ cS cO b K V fz yX9_readCase (wsOf yX9_readCase cX9_readCase 3 none) (n + 3) [.ref (b + x0)] cs cs9) (hT_X9_readSpan : ∀ (cs : CS) (x0 : Nat) (cs9 : CS), T.2.2.2.2.2.2.2.2.2.1 cs x0 = some cs9 → ocV l dC dI cB cI cJ cZ cS cO b K V fz yX9_readSpan (wsOf yX9_readSpan cX9_readSpan 3 none) (n + 3) [.ref (b + x0)] cs cs9) (hT_X9_readAggregate : ∀ (cs : CS) (x0 : Nat) (cs9 : CS), T.2.2.2.2.2.2.2.2.2.2.1 cs x0 = some cs9 → ocV l dC dI cB cI cJ cZ cS cO b K V fz yX9_readAggregate (wsOf yX9_readAggregate cX9_readAggregate 7 none) (n + 3) [.ref (b + x0)] cs cs9) (hT_X9_readList : ∀ (cs : CS) (x0 : Nat) (x1 : Int32) (x2 : Int32) (x3 : Int32) (x4 : Int32) (cs9 : CS), T.2.2.2.2.2.2.2.2.2.2.2 cs x0 x1 x2 x3 x4 = some cs9 → ocV l dC dI cB cI cJ cZ cS cO b K V fz yX9_readList (wsOf yX9_readList cX9_readList 8 none) (n + 3) [.ref (b + x0), .int x1, .int x2, .int x3, .int x4] cs cs9) (cs : CS) (x0 : Nat) (cs9 : CS) (hf : cb_X9_readAggregate F T cs x0 = some cs9) : ocV l dC dI cB cI cJ cZ cS cO b K V fz yX9_readAggregate (wsOf yX9_readAggregate cX9_readAggregate 7 none) (n + 1 + 3) [.ref (b + x0)] cs cs9 := by
  intro sz
  refine Met.ofW (cc := cX9_readAggregate) (maxL := 7) (ret := none) (by decide) rfl ?_
  intro p e s m args below meth c s₁ B hml hv
  obtain ⟨rfl, hsz, hP, hK, hD0, hZ⟩ := hv
  have hx := B.exec
  have hb := B.bytes
  have hr := B.returns
  have hts := atoms_spec (ws := (wsOf yX9_readAggregate cX9_readAggregate 7 none)) B.pre
  have hown : s.vm.findClass RX9 = some m.cls := findClass_of_methodNamed B.named
  have hlocks := B.notSynchronized
  subst hsz
  have hD := hD0.self (sz := s.heap.size)
  generalize hAe : va_A (cW cB cI cJ cZ cS cO b cs) s.heap.size = A at hD hZ ⊢
  have hA : ∀ q : Nat, s.heap.size ≤ q → A q := fun q h => by rw [← hAe]; exact Or.inr h
  have hS : va_S A s.heap s.heap [] := va_S.rf
  have hl := lv_entry ([.ref (b + x0)]) (n := 7) (Nat.le_of_ble_eq_true rfl)
  rw [lg_entry_eq]
  generalize (lg_sl ([.ref (b + x0)]) ++ List.replicate (7 - (lg_sl ([.ref (b + x0)])).length) Slot.unset).toArray = ls at hl ⊢
  have hl : lv_has ls 7 [(0, .ref (b + x0))] := hl
  have B_36 : ∀ (cs1 : CS) (u0 : Nat) (u3 : Int32), c_X9_readAggregate_b36 F T cs1 u0 u3 = some cs9 → ∀ (H : Heap) (locs : List Loc) (ls : Array Slot), va_P (dC, dI) vwCl (cW cB cI cJ cZ cS cO b cs1) H → va_D A (cW cB cI cJ cZ cS cO b cs1) → va_S A s.heap H locs → lv_has ls 7 [(0, .ref (b + u0)), (3, .int u3)] → W p l e (headSpec (wsOf yX9_readAggregate cX9_readAggregate 7 none) ({ frames := n + 1 + 3, cells := 0, slots := 0, locals := 60 * (n + 1 + 3) } : Room)).room s m ([.ref (b + x0)] : List Value).toArray below meth c H locs 0 0 (MQ below (va_Qv (fun (_ : Unit) => True) (fun _ t_ => va_P (dC, dI) vwCl (cW cB cI cJ cZ cS cO b cs9) t_.heap ∧ va_D A (cW cB cI cJ cZ cS cO b cs9)) A) ([.ref (b + x0)] : List Value).toArray s 0 0 A) (F0 m 36 ls []) := by
    intro cs1 u0 u3 h H locs ls hP hD hS hl
    unfold c_X9_readAggregate_b36 at h
    refine lv_aload_n hx hb dX9_readAggregate_36 rfl (lv_at hl 0 rfl) ?_
    refine lv_iconst (v := 1) hx hb dX9_readAggregate_37 (by decide) ?_
    refine lv_iload_n hx hb dX9_readAggregate_38 rfl (lv_at hl 1 rfl) ?_
    replace h := ob h; obtain ⟨w_2, hw_2, h⟩ := h
    replace h := ob h; obtain ⟨cs_1, hv_1, h⟩ := h
    refine ccV (As := [.int 1, .int u3]) hx hb hml hts hown hK hP hD hS hA hZ (X := 10) (by decide) rfl (ckE_some hw_2) (sc_X9_refuse l dC dI cB cI cJ cZ cS cO b K V fz F cs1 u0 1 u3 cs_1 hv_1) (cw_X9_X9_refuse hts (fr := 0) (by show 0 + 1 ≤ n + 1 + 3; omega) (by show 8 + (3 + 11) + 60 * (0) ≤ 60 * (n + 1 + 3); omega)) rfl hl.1 (Nat.le_of_ble_eq_true rfl) ⟨Nat.zero_le _, Nat.zero_le _⟩ dX9_readAggregate_39 (fun H locs hP hD hS => ?_)
    have e1 := Option.some.inj h
    rw [e1] at hP hD
    exact W.vret hx hb hr (fun t_ ht hW => ⟨⟨(), rfl, trivial, by rw [ht]; exact hP, hD⟩, hS.F ht⟩) hS.2.2 dX9_readAggregate_42
  have B_159 : ∀ (cs1 : CS) (u0 : Nat) (u2 : Int32) (u4 : Nat) (y0 : Int32) (y1 : Int32) (y2 : Int32) (y3 : Int32) (y4 : Int32) (y5 : Nat), c_X9_readAggregate_b159 F T cs1 u0 u2 u4 y0 y1 y2 y3 y4 y5 = some cs9 → ∀ (H : Heap) (locs : List Loc) (ls : Array Slot), va_P (dC, dI) vwCl (cW cB cI cJ cZ cS cO b cs1) H → va_D A (cW cB cI cJ cZ cS cO b cs1) → va_S A s.heap H locs → lv_has ls 7 [(0, .ref (b + u0)), (2, .int u2), (4, .ref (b + u4))] → W p l e (headSpec (wsOf yX9_readAggregate cX9_readAggregate 7 none) ({ frames := n + 1 + 3, cells := 0, slots := 0, locals := 60 * (n + 1 + 3) } : Room)).room s m ([.ref (b + x0)] : List Value).toArray below meth c H locs 0 0 (MQ below (va_Qv (fun (_ : Unit) => True) (fun _ t_ => va_P (dC, dI) vwCl (cW cB cI cJ cZ cS cO b cs9) t_.heap ∧ va_D A (cW cB cI cJ cZ cS cO b cs9)) A) ([.ref (b + x0)] : List Value).toArray s 0 0 A) (F0 m 159 ls [.int y0, .int y1, .int y2, .int y3, .int y4, .ref (b + y5)]) := by
    intro cs1 u0 u2 u4 y0 y1 y2 y3 y4 y5 h H locs ls hP hD hS hl
    unfold c_X9_readAggregate_b159 at h
    replace h := ob h; obtain ⟨w_4, hw_4, h⟩ := h
    replace h := ob h; obtain ⟨z_3, hv_3, h⟩ := h
    refine ccI (As := [.int y4, .int y3, .int y2, .int y1, .int y0]) hx hb hml hts hown hK hP hD hS hA hZ (X := 10) (by decide) rfl (ckE_some hw_4) (sc_X9_complete l dC dI cB cI cJ cZ cS cO b K V fz F cs1 y5 y4 y3 y2 y1 y0 z_3.1 z_3.2 hv_3) (cw_X9_X9_complete hts (fr := 1) (by show 1 + 1 ≤ n + 1 + 3; omega) (by show 8 + (6 + 11) + 60 * (1) ≤ 60 * (n + 1 + 3); omega)) rfl hl.1 (Nat.le_of_ble_eq_true rfl) ⟨Nat.zero_le _, Nat.zero_le _⟩ dX9_readAggregate_159 (fun H locs hP hD hS => ?_)
    refine lv_istore (lv' := [(6, .int z_3.2), (0, .ref (b + u0)), (2, .int u2), (4, .ref (b + u4))]) hx hb dX9_readAggregate_162 hl (by decide) rfl (fun ls hl => ?_)
    refine lv_aload_n hx hb dX9_readAggregate_164 rfl (lv_at hl 1 rfl) ?_
    refine lv_aload hx hb dX9_readAggregate_165 (lv_at hl 3 rfl) ?_
    refine lv_iload hx hb dX9_readAggregate_167 (lv_at hl 0 rfl) ?_
    refine lv_iload_n hx hb dX9_readAggregate_169 rfl (lv_at hl 2 rfl) ?_
    replace h := ob h; obtain ⟨w_6, hw_6, h⟩ := h
    replace h := ob h; obtain ⟨cs_5, hv_5, h⟩ := h
    refine ccV (As := [.ref (b + u4), .int z_3.2, .int u2]) hx hb hml hts hown hK hP hD hS hA hZ (X := 10) (by decide) rfl (ckE_some hw_6) (sc_X9_noteAggregate l dC dI cB cI cJ cZ cS cO b K V fz F z_3.1 u0 u4 z_3.2 u2 cs_5 hv_5) (cw_X9_X9_noteAggregate hts (fr := 1) (by show 1 + 1 ≤ n + 1 + 3; omega) (by show 8 + (4 + 11) + 60 * (1) ≤ 60 * (n + 1 + 3); omega)) rfl hl.1 (Nat.le_of_ble_eq_true rfl) ⟨Nat.zero_le _, Nat.zero_le _⟩ dX9_readAggregate_170 (fun H locs hP hD hS => ?_)
    have e1 := Option.some.inj h
    rw [e1] at hP hD
    exact W.vret hx hb hr (fun t_ ht hW => ⟨⟨(), rfl, trivial, by rw [ht]; exact hP, hD⟩, hS.F ht⟩) hS.2.2 dX9_readAggregate_173
  have B_146 : ∀ (cs1 : CS) (u0 : Nat) (u2 : Int32) (u3 : Int32) (u4 : Nat) (u5 : Int32) (y0 : Int32) (y1 : Nat), c_X9_readAggregate_b146 F T cs1 u0 u2 u3 u4 u5 y0 y1 = some cs9 → ∀ (H : Heap) (locs : List Loc) (ls : Array Slot), va_P (dC, dI) vwCl (cW cB cI cJ cZ cS cO b cs1) H → va_D A (cW cB cI cJ cZ cS cO b cs1) → va_S A s.heap H locs → lv_has ls 7 [(0, .ref (b + u0)), (2, .int u2), (3, .int u3), (4, .ref (b + u4)), (5, .int u5)] → W p l e (headSpec (wsOf yX9_readAggregate cX9_readAggregate 7 none) ({ frames := n + 1 + 3, cells := 0, slots := 0, locals := 60 * (n + 1 + 3) } : Room)).room s m ([.ref (b + x0)] : List Value).toArray below meth c H locs 0 0 (MQ below (va_Qv (fun (_ : Unit) => True) (fun _ t_ => va_P (dC, dI) vwCl (cW cB cI cJ cZ cS cO b cs9) t_.heap ∧ va_D A (cW cB cI cJ cZ cS cO b cs9)) A) ([.ref (b + x0)] : List Value).toArray s 0 0 A) (F0 m 146 ls [.int y0, .ref (b + y1)]) := by
    intro cs1 u0 u2 u3 u4 u5 y0 y1 h H locs ls hP hD hS hl
    unfold c_X9_readAggregate_b146 at h
    refine lv_iload_n hx hb dX9_readAggregate_146 rfl (lv_at hl 1 rfl) ?_
    refine lv_iload_n hx hb dX9_readAggregate_147 rfl (lv_at hl 2 rfl) ?_
    refine lv_iload_n hx hb dX9_readAggregate_148 rfl (lv_at hl 2 rfl) ?_
    refine lv_iload hx hb dX9_readAggregate_149 (lv_at hl 4 rfl) ?_
    refine lv_if_eq (tgt := 158) hx hb dX9_readAggregate_151 (by decide) (fun c_7 => ?_) (fun c_7 => ?_)
    · skip
      replace h := (if_pos c_7).symm.trans h
      refine lv_iconst (v := 1) hx hb dX9_readAggregate_158 (by decide) ?_
      exact B_159 cs1 u0 u2 u4 1 u3 u3 u2 y0 y1 h _ _ _ hP hD hS (lv_sub hl [0, 1, 3] rfl)
    · skip
      replace h := (if_neg c_7).symm.trans h
      refine lv_iconst (v := 0) hx hb dX9_readAggregate_154 (by decide) ?_
      refine lv_goto (tgt := 159) hx hb dX9_readAggregate_155 (by decide) ?_
      exact B_159 cs1 u0 u2 u4 0 u3 u3 u2 y0 y1 h _ _ _ hP hD hS (lv_sub hl [0, 1, 3] rfl)
  have B_113 : ∀ (cs1 : CS) (u0 : Nat) (u1 : Int32) (u2 : Int32) (u3 : Int32) (u4 : Nat) (u5 : Int32), c_X9_readAggregate_b113 F T cs1 u0 u1 u2 u3 u4 u5 = some cs9 → ∀ (H : Heap) (locs : List Loc) (ls : Array Slot), va_P (dC, dI) vwCl (cW cB cI cJ cZ cS cO b cs1) H → va_D A (cW cB cI cJ cZ cS cO b cs1) → va_S A s.heap H locs → lv_has ls 7 [(0, .ref (b + u0)), (1, .int u1), (2, .int u2), (3, .int u3), (4, .ref (b + u4)), (5, .int u5)] → W p l e (headSpec (wsOf yX9_readAggregate cX9_readAggregate 7 none) ({ frames := n + 1 + 3, cells := 0, slots := 0, locals := 60 * (n + 1 + 3) } : Room)).room s m ([.ref (b + x0)] : List Value).toArray below meth c H locs 0 0 (MQ below (va_Qv (fun (_ : Unit) => True) (fun _ t_ => va_P (dC, dI) vwCl (cW cB cI cJ cZ cS cO b cs9) t_.heap ∧ va_D A (cW cB cI cJ cZ cS cO b cs9)) A) ([.ref (b + x0)] : List Value).toArray s 0 0 A) (F0 m 113 ls []) := by
    intro cs1 u0 u1 u2 u3 u4 u5 h H locs ls hP hD hS hl
    unfold c_X9_readAggregate_b113 at h
    refine lv_aload_n hx hb dX9_readAggregate_113 rfl (lv_at hl 0 rfl) ?_
    refine lv_iconst (v := 1) hx hb dX9_readAggregate_114 (by decide) ?_
    replace h := ob h; obtain ⟨cs_8, hv_8, h⟩ := h
    refine fp_X9_163 hx hb hts hown hK hP hD hS (Or.inr rfl) hv_8 dX9_readAggregate_115 (fun H locs hP hD hS => ?_)
    refine lv_aload_n hx hb dX9_readAggregate_118 rfl (lv_at hl 0 rfl) ?_
    refine lv_bipush (v := 42) hx hb dX9_readAggregate_119 (by decide) ?_
    replace h := ob h; obtain ⟨w_10, hw_10, h⟩ := h
    replace h := ob h; obtain ⟨cs_9, hv_9, h⟩ := h
    refine ccV (As := [.int 42]) hx hb hml hts hown hK hP hD hS hA hZ (X := 10) (by decide) rfl (ckE_some hw_10) (sc_X9_expect l dC dI cB cI cJ cZ cS cO b K V fz F cs_8 u0 42 cs_9 hv_9) (cw_X9_X9_expect hts (fr := 1) (by show 1 + 1 ≤ n + 1 + 3; omega) (by show 8 + (2 + 11) + 60 * (1) ≤ 60 * (n + 1 + 3); omega)) rfl hl.1 (Nat.le_of_ble_eq_true rfl) ⟨Nat.zero_le _, Nat.zero_le _⟩ dX9_readAggregate_121 (fun H locs hP hD hS => ?_)
    refine lv_aload_n hx hb dX9_readAggregate_124 rfl (lv_at hl 0 rfl) ?_
    refine lv_dup hx hb dX9_readAggregate_125 rfl ?_
    replace h := ob h; obtain ⟨v_11, hv_11, h⟩ := h
    refine fg_X9_275 hx hb hts hown hK hP hv_11 dX9_readAggregate_126 ?_
    refine lv_iconst (v := 1) hx hb dX9_readAggregate_129 (by decide) ?_
    refine lv_isub hx hb dX9_readAggregate_130 ?_
    replace h := ob h; obtain ⟨cs_12, hv_12, h⟩ := h
    refine fp_X9_275 hx hb hts hown hK hP hD hS hv_12 dX9_readAggregate_131 (fun H locs hP hD hS => ?_)
    refine lv_aload_n hx hb dX9_readAggregate_134 rfl (lv_at hl 0 rfl) ?_
    refine lv_iload hx hb dX9_readAggregate_135 (lv_at hl 5 rfl) ?_
    refine lv_if_eq (tgt := 145) hx hb dX9_readAggregate_137 (by decide) (fun c_13 => ?_) (fun c_13 => ?_)
    · skip
      replace h := (if_pos c_13).symm.trans h
      refine lv_iload_n hx hb dX9_readAggregate_145 rfl (lv_at hl 1 rfl) ?_
      exact B_146 cs_12 u0 u2 u3 u4 u5 u1 u0 h _ _ _ hP hD hS (lv_sub hl [0, 2, 3, 4, 5] rfl)
    · skip
      replace h := (if_neg c_13).symm.trans h
      refine lv_bipush (v := 61) hx hb dX9_readAggregate_140 (by decide) ?_
      refine lv_goto (tgt := 146) hx hb dX9_readAggregate_142 (by decide) ?_
      exact B_146 cs_12 u0 u2 u3 u4 u5 61 u0 h _ _ _ hP hD hS (lv_sub hl [0, 2, 3, 4, 5] rfl)
  have B_101 : ∀ (cs1 : CS) (u0 : Nat) (u1 : Int32) (u2 : Int32) (u3 : Int32) (u4 : Nat) (y0 : Int32), c_X9_readAggregate_b101 F T cs1 u0 u1 u2 u3 u4 y0 = some cs9 → ∀ (H : Heap) (locs : List Loc) (ls : Array Slot), va_P (dC, dI) vwCl (cW cB cI cJ cZ cS cO b cs1) H → va_D A (cW cB cI cJ cZ cS cO b cs1) → va_S A s.heap H locs → lv_has ls 7 [(0, .ref (b + u0)), (1, .int u1), (2, .int u2), (3, .int u3), (4, .ref (b + u4))] → W p l e (headSpec (wsOf yX9_readAggregate cX9_readAggregate 7 none) ({ frames := n + 1 + 3, cells := 0, slots := 0, locals := 60 * (n + 1 + 3) } : Room)).room s m ([.ref (b + x0)] : List Value).toArray below meth c H locs 0 0 (MQ below (va_Qv (fun (_ : Unit) => True) (fun _ t_ => va_P (dC, dI) vwCl (cW cB cI cJ cZ cS cO b cs9) t_.heap ∧ va_D A (cW cB cI cJ cZ cS cO b cs9)) A) ([.ref (b + x0)] : List Value).toArray s 0 0 A) (F0 m 101 ls [.int y0]) := by
    intro cs1 u0 u1 u2 u3 u4 y0 h H locs ls hP hD hS hl
    unfold c_X9_readAggregate_b101 at h
    refine lv_istore (lv' := [(5, .int y0), (0, .ref (b + u0)), (1, .int u1), (2, .int u2), (3, .int u3), (4, .ref (b + u4))]) hx hb dX9_readAggregate_101 hl (by decide) rfl (fun ls hl => ?_)
    refine lv_iload hx hb dX9_readAggregate_103 (lv_at hl 0 rfl) ?_
    refine lv_if_ne (tgt := 113) hx hb dX9_readAggregate_105 (by decide) (fun c_14 => ?_) (fun c_14 => ?_)
    · skip
      replace h := (if_neg c_14).symm.trans h
      exact B_113 cs1 u0 u1 u2 u3 u4 y0 h _ _ _ hP hD hS (lv_sub hl [1, 2, 3, 4, 5, 0] rfl)
    · skip
      replace h := (if_pos c_14).symm.trans h
      refine lv_aload_n hx hb dX9_readAggregate_108 rfl (lv_at hl 1 rfl) ?_
      replace h := ob h; obtain ⟨w_16, hw_16, h⟩ := h
      replace h := ob h; obtain ⟨z_15, hv_15, h⟩ := h
      refine ccI (As := []) hx hb hml hts hown hK hP hD hS hA hZ (X := 10) (by decide) rfl (ckE_some hw_16) (hT_X9_readExpr cs1 u0 z_15.1 z_15.2 hv_15) (cw_X9_X9_readExpr hts (fr := n + 3) (by show n + 3 + 1 ≤ n + 1 + 3; omega) (by show 8 + (5 + 11) + 60 * (n + 3) ≤ 60 * (n + 1 + 3); omega)) rfl hl.1 (Nat.le_of_ble_eq_true rfl) ⟨Nat.zero_le _, Nat.zero_le _⟩ dX9_readAggregate_109 (fun H locs hP hD hS => ?_)
      refine lv_pop hx hb dX9_readAggregate_112 rfl ?_
      exact B_113 z_15.1 u0 u1 u2 u3 u4 y0 h _ _ _ hP hD hS (lv_sub hl [1, 2, 3, 4, 5, 0] rfl)
  have B_100 : ∀ (cs1 : CS) (u0 : Nat) (u1 : Int32) (u2 : Int32) (u3 : Int32) (u4 : Nat), c_X9_readAggregate_b100 F T cs1 u0 u1 u2 u3 u4 = some cs9 → ∀ (H : Heap) (locs : List Loc) (ls : Array Slot), va_P (dC, dI) vwCl (cW cB cI cJ cZ cS cO b cs1) H → va_D A (cW cB cI cJ cZ cS cO b cs1) → va_S A s.heap H locs → lv_has ls 7 [(0, .ref (b + u0)), (1, .int u1), (2, .int u2), (3, .int u3), (4, .ref (b + u4))] → W p l e (headSpec (wsOf yX9_readAggregate cX9_readAggregate 7 none) ({ frames := n + 1 + 3, cells := 0, slots := 0, locals := 60 * (n + 1 + 3) } : Room)).room s m ([.ref (b + x0)] : List Value).toArray below meth c H locs 0 0 (MQ below (va_Qv (fun (_ : Unit) => True) (fun _ t_ => va_P (dC, dI) vwCl (cW cB cI cJ cZ cS cO b cs9) t_.heap ∧ va_D A (cW cB cI cJ cZ cS cO b cs9)) A) ([.ref (b + x0)] : List Value).toArray s 0 0 A) (F0 m 100 ls []) := by
    intro cs1 u0 u1 u2 u3 u4 h H locs ls hP hD hS hl
    unfold c_X9_readAggregate_b100 at h
    refine lv_iconst (v := 0) hx hb dX9_readAggregate_100 (by decide) ?_
    exact B_101 cs1 u0 u1 u2 u3 u4 0 h _ _ _ hP hD hS (lv_sub hl [0, 1, 2, 3, 4] rfl)
  have B_60 : ∀ (cs1 : CS) (u0 : Nat) (u1 : Int32) (u2 : Int32) (u3 : Int32) (u4 : Nat), c_X9_readAggregate_b60 F T cs1 u0 u1 u2 u3 u4 = some cs9 → ∀ (H : Heap) (locs : List Loc) (ls : Array Slot), va_P (dC, dI) vwCl (cW cB cI cJ cZ cS cO b cs1) H → va_D A (cW cB cI cJ cZ cS cO b cs1) → va_S A s.heap H locs → lv_has ls 7 [(0, .ref (b + u0)), (1, .int u1), (2, .int u2), (3, .int u3), (4, .ref (b + u4))] → W p l e (headSpec (wsOf yX9_readAggregate cX9_readAggregate 7 none) ({ frames := n + 1 + 3, cells := 0, slots := 0, locals := 60 * (n + 1 + 3) } : Room)).room s m ([.ref (b + x0)] : List Value).toArray below meth c H locs 0 0 (MQ below (va_Qv (fun (_ : Unit) => True) (fun _ t_ => va_P (dC, dI) vwCl (cW cB cI cJ cZ cS cO b cs9) t_.heap ∧ va_D A (cW cB cI cJ cZ cS cO b cs9)) A) ([.ref (b + x0)] : List Value).toArray s 0 0 A) (F0 m 60 ls []) := by
    intro cs1 u0 u1 u2 u3 u4 h H locs ls hP hD hS hl
    unfold c_X9_readAggregate_b60 at h
    refine lv_aload_n hx hb dX9_readAggregate_60 rfl (lv_at hl 0 rfl) ?_
    replace h := ob h; obtain ⟨w_18, hw_18, h⟩ := h
    replace h := ob h; obtain ⟨cs_17, hv_17, h⟩ := h
    refine ccV (As := []) hx hb hml hts hown hK hP hD hS hA hZ (X := 10) (by decide) rfl (ckE_some hw_18) (sc_X9_deepen l dC dI cB cI cJ cZ cS cO b K V fz F cs1 u0 cs_17 hv_17) (cw_X9_X9_deepen hts (fr := 1) (by show 1 + 1 ≤ n + 1 + 3; omega) (by show 8 + (1 + 11) + 60 * (1) ≤ 60 * (n + 1 + 3); omega)) rfl hl.1 (Nat.le_of_ble_eq_true rfl) ⟨Nat.zero_le _, Nat.zero_le _⟩ dX9_readAggregate_61 (fun H locs hP hD hS => ?_)
    refine lv_aload_n hx hb dX9_readAggregate_64 rfl (lv_at hl 0 rfl) ?_
    refine lv_iload_n hx hb dX9_readAggregate_65 rfl (lv_at hl 1 rfl) ?_
    replace h := ob h; obtain ⟨w_20, hw_20, h⟩ := h
    replace h := ob h; obtain ⟨z_19, hv_19, h⟩ := h
    refine ccI (As := [.int u1]) hx hb hml hts hown hK hP hD hS hA hZ (X := 10) (by decide) rfl (ckE_some hw_20) (sc_X9_accept l dC dI cB cI cJ cZ cS cO b K V fz F cs_17 u0 u1 z_19.1 z_19.2 hv_19) (cw_X9_X9_accept hts (fr := 1) (by show 1 + 1 ≤ n + 1 + 3; omega) (by show 8 + (3 + 11) + 60 * (1) ≤ 60 * (n + 1 + 3); omega)) rfl hl.1 (Nat.le_of_ble_eq_true rfl) ⟨Nat.zero_le _, Nat.zero_le _⟩ dX9_readAggregate_66 (fun H locs hP hD hS => ?_)
    refine lv_pop hx hb dX9_readAggregate_69 rfl ?_
    refine lv_aload_n hx hb dX9_readAggregate_70 rfl (lv_at hl 0 rfl) ?_
    refine lv_bipush (v := 41) hx hb dX9_readAggregate_71 (by decide) ?_
    replace h := ob h; obtain ⟨w_22, hw_22, h⟩ := h
    replace h := ob h; obtain ⟨cs_21, hv_21, h⟩ := h
    refine ccV (As := [.int 41]) hx hb hml hts hown hK hP hD hS hA hZ (X := 10) (by decide) rfl (ckE_some hw_22) (sc_X9_expect l dC dI cB cI cJ cZ cS cO b K V fz F z_19.1 u0 41 cs_21 hv_21) (cw_X9_X9_expect hts (fr := 1) (by show 1 + 1 ≤ n + 1 + 3; omega) (by show 8 + (2 + 11) + 60 * (1) ≤ 60 * (n + 1 + 3); omega)) rfl hl.1 (Nat.le_of_ble_eq_true rfl) ⟨Nat.zero_le _, Nat.zero_le _⟩ dX9_readAggregate_73 (fun H locs hP hD hS => ?_)
    refine lv_aload_n hx hb dX9_readAggregate_76 rfl (lv_at hl 0 rfl) ?_
    refine lv_iconst (v := 0) hx hb dX9_readAggregate_77 (by decide) ?_
    replace h := ob h; obtain ⟨cs_23, hv_23, h⟩ := h
    refine fp_X9_163 hx hb hts hown hK hP hD hS (Or.inl rfl) hv_23 dX9_readAggregate_78 (fun H locs hP hD hS => ?_)
    refine lv_iload_n hx hb dX9_readAggregate_81 rfl (lv_at hl 1 rfl) ?_
    refine lv_bipush (v := 32) hx hb dX9_readAggregate_82 (by decide) ?_
    refine lv_icmp_ne (tgt := 100) hx hb dX9_readAggregate_84 (by decide) (fun c_24 => ?_) (fun c_24 => ?_)
    · skip
      replace h := (if_neg c_24).symm.trans h
      exact B_100 cs_23 u0 u1 u2 u3 u4 h _ _ _ hP hD hS (lv_sub hl [0, 1, 2, 3, 4] rfl)
    · skip
      replace h := (if_pos c_24).symm.trans h
      refine lv_aload_n hx hb dX9_readAggregate_87 rfl (lv_at hl 0 rfl) ?_
      refine lv_bipush (v := 47) hx hb dX9_readAggregate_88 (by decide) ?_
      replace h := ob h; obtain ⟨w_26, hw_26, h⟩ := h
      replace h := ob h; obtain ⟨z_25, hv_25, h⟩ := h
      refine ccI (As := [.int 47]) hx hb hml hts hown hK hP hD hS hA hZ (X := 10) (by decide) rfl (ckE_some hw_26) (sc_X9_accept l dC dI cB cI cJ cZ cS cO b K V fz F cs_23 u0 47 z_25.1 z_25.2 hv_25) (cw_X9_X9_accept hts (fr := 1) (by show 1 + 1 ≤ n + 1 + 3; omega) (by show 8 + (3 + 11) + 60 * (1) ≤ 60 * (n + 1 + 3); omega)) rfl hl.1 (Nat.le_of_ble_eq_true rfl) ⟨Nat.zero_le _, Nat.zero_le _⟩ dX9_readAggregate_90 (fun H locs hP hD hS => ?_)
      refine lv_if_eq (tgt := 100) hx hb dX9_readAggregate_93 (by decide) (fun c_27 => ?_) (fun c_27 => ?_)
      · skip
        replace h := (if_pos c_27).symm.trans h
        exact B_100 z_25.1 u0 u1 u2 u3 u4 h _ _ _ hP hD hS (lv_sub hl [0, 1, 2, 3, 4] rfl)
      · skip
        replace h := (if_neg c_27).symm.trans h
        refine lv_iconst (v := 1) hx hb dX9_readAggregate_96 (by decide) ?_
        refine lv_goto (tgt := 101) hx hb dX9_readAggregate_97 (by decide) ?_
        exact B_101 z_25.1 u0 u1 u2 u3 u4 1 h _ _ _ hP hD hS (lv_sub hl [0, 1, 2, 3, 4] rfl)
  have h := hf
  unfold cb_X9_readAggregate at h
  refine lv_aload_n hx hb dX9_readAggregate_0 rfl (lv_at hl 0 rfl) ?_
  replace h := ob h; obtain ⟨w_29, hw_29, h⟩ := h
  replace h := ob h; obtain ⟨v_28, hv_28, h⟩ := h
  refine ccI (As := []) hx hb hml hts hown hK hP hD hS hA hZ (X := 10) (by decide) rfl (ckE_some hw_29) (sc_X9_kind l dC dI cB cI cJ cZ cS cO b K V fz F cs x0 v_28 hv_28) (cw_X9_X9_kind hts (fr := 0) (by show 0 + 1 ≤ n + 1 + 3; omega) (by show 8 + (1 + 11) + 60 * (0) ≤ 60 * (n + 1 + 3); omega)) rfl hl.1 (Nat.le_of_ble_eq_true rfl) ⟨Nat.zero_le _, Nat.zero_le _⟩ dX9_readAggregate_1 (fun H locs hP hD hS => ?_)
  refine lv_istore_n (lv' := [(1, .int v_28), (0, .ref (b + x0))]) hx hb dX9_readAggregate_4 rfl hl (by decide) rfl (fun ls hl => ?_)
  refine lv_aload_n hx hb dX9_readAggregate_5 rfl (lv_at hl 1 rfl) ?_
  replace h := ob h; obtain ⟨v_30, hv_30, h⟩ := h
  refine fg_X9_26 hx hb hts hown hK hP hv_30 dX9_readAggregate_6 ?_
  replace h := ob h; obtain ⟨i_31, hi_31, h⟩ := h
  subst hi_31
  replace h := ob h; obtain ⟨v_32, hv_32, h⟩ := h
  refine fg_X9_296 hx hb hts hown hK hP hv_32 dX9_readAggregate_9 ?_
  refine lv_istore_n (lv' := [(2, .int v_32), (1, .int v_28), (0, .ref (b + x0))]) hx hb dX9_readAggregate_12 rfl hl (by decide) rfl (fun ls hl => ?_)
  refine lv_aload_n hx hb dX9_readAggregate_13 rfl (lv_at hl 2 rfl) ?_
  replace h := ob h; obtain ⟨w_34, hw_34, h⟩ := h
  replace h := ob h; obtain ⟨v_33, hv_33, h⟩ := h
  refine ccI (As := []) hx hb hml hts hown hK hP hD hS hA hZ (X := 10) (by decide) rfl (ckE_some hw_34) (sc_X9_here l dC dI cB cI cJ cZ cS cO b K V fz F cs x0 v_33 hv_33) (cw_X9_X9_here hts (fr := 0) (by show 0 + 1 ≤ n + 1 + 3; omega) (by show 8 + (1 + 11) + 60 * (0) ≤ 60 * (n + 1 + 3); omega)) rfl hl.1 (Nat.le_of_ble_eq_true rfl) ⟨Nat.zero_le _, Nat.zero_le _⟩ dX9_readAggregate_14 (fun H locs hP hD hS => ?_)
  refine lv_istore_n (lv' := [(3, .int v_33), (2, .int v_32), (1, .int v_28), (0, .ref (b + x0))]) hx hb dX9_readAggregate_17 rfl hl (by decide) rfl (fun ls hl => ?_)
  refine lv_aload_n hx hb dX9_readAggregate_18 rfl (lv_at hl 3 rfl) ?_
  replace h := ob h; obtain ⟨v_35, hv_35, h⟩ := h
  refine fg_X9_198 hx hb hts hown hK hP hv_35 dX9_readAggregate_19 ?_
  refine lv_astoreO (lv' := [(4, rv b v_35), (3, .int v_33), (2, .int v_32), (1, .int v_28), (0, .ref (b + x0))]) hx hb dX9_readAggregate_22 hl (by decide) rfl (fun ls hl => ?_)
  refine lv_aload_n hx hb dX9_readAggregate_24 rfl (lv_at hl 4 rfl) ?_
  replace h := ob h; obtain ⟨v_36, hv_36, h⟩ := h
  refine fg_X9_163 hx hb hts hown hK hP hv_36 dX9_readAggregate_25 ?_
  refine lv_if_eq (tgt := 36) hx hb dX9_readAggregate_28 (by decide) (fun c_37 => ?_) (fun c_37 => ?_)
  · skip
    replace h := (if_pos c_37).symm.trans h
    exact B_36 cs x0 v_33 h _ _ _ hP hD hS (lv_sub hl [4, 1] rfl)
  · skip
    replace h := (if_neg c_37).symm.trans h
    refine lv_aloadO hx hb dX9_readAggregate_31 (lv_at hl 0 rfl) ?_
    cases v_35 with
    | none =>
      replace h := oc_n.symm.trans h
      refine lv_ifnonnullN hx hb dX9_readAggregate_33 ?_
      exact B_36 cs x0 v_33 h _ _ _ hP hD hS (lv_sub hl [4, 1] rfl)
    | some i_38 =>
      replace h := oc_s.symm.trans h
      refine lv_ifnonnull (tgt := 43) hx hb dX9_readAggregate_33 (by decide) ?_
      refine lv_aload hx hb dX9_readAggregate_43 (lv_at hl 0 rfl) ?_
      replace h := ob h; obtain ⟨v_39, hv_39, h⟩ := h
      refine fg_X9_349 hx hb hts hown hK hP hv_39 dX9_readAggregate_45 ?_
      refine lv_bipush (v := 12) hx hb dX9_readAggregate_48 (by decide) ?_
      refine lv_icmp_lt (tgt := 60) hx hb dX9_readAggregate_50 (by decide) (fun c_40 => ?_) (fun c_40 => ?_)
      · skip
        replace h := (if_pos c_40).symm.trans h
        exact B_60 cs x0 v_28 v_32 v_33 i_38 h _ _ _ hP hD hS (lv_sub hl [4, 3, 2, 1, 0] rfl)
      · skip
        replace h := (if_neg c_40).symm.trans h
        refine lv_aload_n hx hb dX9_readAggregate_53 rfl (lv_at hl 4 rfl) ?_
        refine lv_bipush (v := 7) hx hb dX9_readAggregate_54 (by decide) ?_
        refine lv_iload_n hx hb dX9_readAggregate_56 rfl (lv_at hl 1 rfl) ?_
        replace h := ob h; obtain ⟨w_42, hw_42, h⟩ := h
        replace h := ob h; obtain ⟨cs_41, hv_41, h⟩ := h
        refine ccV (As := [.int 7, .int v_33]) hx hb hml hts hown hK hP hD hS hA hZ (X := 10) (by decide) rfl (ckE_some hw_42) (sc_X9_refuse l dC dI cB cI cJ cZ cS cO b K V fz F cs x0 7 v_33 cs_41 hv_41) (cw_X9_X9_refuse hts (fr := 0) (by show 0 + 1 ≤ n + 1 + 3; omega) (by show 8 + (3 + 11) + 60 * (0) ≤ 60 * (n + 1 + 3); omega)) rfl hl.1 (Nat.le_of_ble_eq_true rfl) ⟨Nat.zero_le _, Nat.zero_le _⟩ dX9_readAggregate_57 (fun H locs hP hD hS => ?_)
        exact B_60 cs_41 x0 v_28 v_32 v_33 i_38 h _ _ _ hP hD hS (lv_sub hl [4, 3, 2, 1, 0] rfl)
set_option maxHeartbeats 4000000 in
set_option maxRecDepth 100000 in
theorem sbc_X9_readList (l : Launch) (dC : Nat → ClassId) (dI : Nat → Nat → Nat) (cB cI cJ cZ cS cO : ClassId) (b : Nat) (K V : Nat → Nat) (fz : Value) (F : Nat) (n : Nat) (T : TC_X9_readExpr) (hT_X9_readExpr : ∀ (cs : CS) (x0 : Nat) (cs9 : CS) (r9 : Int32), T.1 cs x0 = some (cs9, r9) → ocI l dC dI cB cI cJ cZ cS cO b K V fz yX9_readExpr (wsOf yX9_readExpr cX9_readExpr 5 (some .int)) (n + 3) [.ref (b + x0)] cs cs9 r9) (hT_X9_readConjunction : ∀ (cs : CS) (x0 : Nat) (cs9 : CS), T.2.1 cs x0 = some cs9 → ocV l dC dI cB cI cJ cZ cS cO b K V fz yX9_readConjunction (wsOf yX9_readConjunction cX9_readConjunction 5 none) (n + 3) [.ref (b + x0)] cs cs9) (hT_X9_readNegation : ∀ (cs : CS) (x0 : Nat) (cs9 : CS), T.2.2.1 cs x0 = some cs9 → ocV l dC dI cB cI cJ cZ cS cO b K V fz yX9_readNegation (wsOf yX9_readNegation cX9_readNegation 3 none) (n + 3) [.ref (b + x0)] cs cs9) (hT_X9_readTest : ∀ (cs : CS) (x0 : Nat) (cs9 : CS), T.2.2.2.1 cs x0 = some cs9 → ocV l dC dI cB cI cJ cZ cS cO b K V fz yX9_readTest (wsOf yX9_readTest cX9_readTest 6 none) (n + 3) [.ref (b + x0)] cs cs9) (hT_X9_readSum : ∀ (cs : CS) (x0 : Nat) (cs9 : CS), T.2.2.2.2.1 cs x0 = some cs9 → ocV l dC dI cB cI cJ cZ cS cO b K V fz yX9_readSum (wsOf yX9_readSum cX9_readSum 6 none) (n + 3) [.ref (b + x0)] cs cs9) (hT_X9_readPart : ∀ (cs : CS) (x0 : Nat) (cs9 : CS), T.2.2.2.2.2.1 cs x0 = some cs9 → ocV l dC dI cB cI cJ cZ cS cO b K V fz yX9_readPart (wsOf yX9_readPart cX9_readPart 6 none) (n + 3) [.ref (b + x0)] cs cs9) (hT_X9_readSign : ∀ (cs : CS) (x0 : Nat) (cs9 : CS), T.2.2.2.2.2.2.1 cs x0 = some cs9 → ocV l dC dI cB cI cJ cZ cS cO b K V fz yX9_readSign (wsOf yX9_readSign cX9_readSign 3 none) (n + 3) [.ref (b + x0)] cs cs9) (hT_X9_readOne : ∀ (cs : CS) (x0 : Nat) (cs9 : CS), T.2.2.2.2.2.2.2.1 cs x0 = some cs9 → ocV l dC dI cB cI cJ cZ cS cO b K V fz yX9_readOne (wsOf yX9_readOne cX9_readOne 1 none) (n + 3) [.ref (b + x0)] cs cs9) (hT_X9_readCase : ∀ (cs : CS) (x0 : Nat) (cs9 : CS), T.2.2.2.2.2.2.2.2.1 cs x0 = some cs9 → ocV l dC dI cB cI cJ cZ cS cO b K V fz yX9_readCase (wsOf yX9_readCase cX9_readCase 3 none) (n + 3) [.ref (b + x0)] cs cs9) (hT_X9_readSpan : ∀ (cs : CS) (x0 : Nat) (cs9 : CS), T.2.2.2.2.2.2.2.2.2.1 cs x0 = some cs9 → ocV l dC dI cB cI cJ cZ cS cO b K V fz yX9_readSpan (wsOf yX9_readSpan cX9_readSpan 3 none) (n + 3) [.ref (b + x0)] cs cs9) (hT_X9_readAggregate : ∀ (cs : CS) (x0 : Nat) (cs9 : CS), T.2.2.2.2.2.2.2.2.2.2.1 cs x0 = some cs9 → ocV l dC dI cB cI cJ cZ cS cO b K V fz yX9_readAggregate (wsOf yX9_readAggregate cX9_readAggregate 7 none) (n + 3) [.ref (b + x0)] cs cs9) (hT_X9_readList : ∀ (cs : CS) (x0 : Nat) (x1 : Int32) (x2 : Int32) (x3 : Int32) (x4 : Int32) (cs9 : CS), T.2.2.2.2.2.2.2.2.2.2.2 cs x0 x1 x2 x3 x4 = some cs9 → ocV l dC dI cB cI cJ cZ cS cO b K V fz yX9_readList (wsOf yX9_readList cX9_readList 8 none) (n + 3) [.ref (b + x0), .int x1, .int x2, .int x3, .int x4] cs cs9) (cs : CS) (x0 : Nat) (x1 : Int32) (x2 : Int32) (x3 : Int32) (x4 : Int32) (cs9 : CS) (hf : cb_X9_readList F T cs x0 x1 x2 x3 x4 = some cs9) : ocV l dC dI cB cI cJ cZ cS cO b K V fz yX9_readList (wsOf yX9_readList cX9_readList 8 none) (n + 1 + 3) [.ref (b + x0), .int x1, .int x2, .int x3, .int x4] cs cs9 := by
  intro sz
  refine Met.ofW (cc := cX9_readList) (maxL := 8) (ret := none) (by decide) rfl ?_
  intro p e s m args below meth c s₁ B hml hv
  obtain ⟨rfl, hsz, hP, hK, hD0, hZ⟩ := hv
  have hx := B.exec
  have hb := B.bytes
  have hr := B.returns
  have hts := atoms_spec (ws := (wsOf yX9_readList cX9_readList 8 none)) B.pre
  have hown : s.vm.findClass RX9 = some m.cls := findClass_of_methodNamed B.named
  have hlocks := B.notSynchronized
  subst hsz
  have hD := hD0.self (sz := s.heap.size)
  generalize hAe : va_A (cW cB cI cJ cZ cS cO b cs) s.heap.size = A at hD hZ ⊢
  have hA : ∀ q : Nat, s.heap.size ≤ q → A q := fun q h => by rw [← hAe]; exact Or.inr h
  have hS : va_S A s.heap s.heap [] := va_S.rf
  have hl := lv_entry ([.ref (b + x0), .int x1, .int x2, .int x3, .int x4]) (n := 8) (Nat.le_of_ble_eq_true rfl)
  rw [lg_entry_eq]
  generalize (lg_sl ([.ref (b + x0), .int x1, .int x2, .int x3, .int x4]) ++ List.replicate (8 - (lg_sl ([.ref (b + x0), .int x1, .int x2, .int x3, .int x4])).length) Slot.unset).toArray = ls at hl ⊢
  have hl : lv_has ls 8 [(0, .ref (b + x0)), (1, .int x1), (2, .int x2), (3, .int x3), (4, .int x4)] := hl
  have B_72 : ∀ (cs1 : CS) (u0 : Nat) (u1 : Int32) (u2 : Int32) (u3 : Int32) (u4 : Int32) (u5 : Int32), c_X9_readList_b72 F T cs1 u0 u1 u2 u3 u4 u5 = some cs9 → ∀ (H : Heap) (locs : List Loc) (ls : Array Slot), va_P (dC, dI) vwCl (cW cB cI cJ cZ cS cO b cs1) H → va_D A (cW cB cI cJ cZ cS cO b cs1) → va_S A s.heap H locs → lv_has ls 8 [(0, .ref (b + u0)), (1, .int u1), (2, .int u2), (3, .int u3), (4, .int u4), (5, .int u5)] → W p l e (headSpec (wsOf yX9_readList cX9_readList 8 none) ({ frames := n + 1 + 3, cells := 0, slots := 0, locals := 60 * (n + 1 + 3) } : Room)).room s m ([.ref (b + x0), .int x1, .int x2, .int x3, .int x4] : List Value).toArray below meth c H locs 0 0 (MQ below (va_Qv (fun (_ : Unit) => True) (fun _ t_ => va_P (dC, dI) vwCl (cW cB cI cJ cZ cS cO b cs9) t_.heap ∧ va_D A (cW cB cI cJ cZ cS cO b cs9)) A) ([.ref (b + x0), .int x1, .int x2, .int x3, .int x4] : List Value).toArray s 0 0 A) (F0 m 72 ls []) := by
    intro cs1 u0 u1 u2 u3 u4 u5 h H locs ls hP hD hS hl
    unfold c_X9_readList_b72 at h
    refine lv_aload_n hx hb dX9_readList_72 rfl (lv_at hl 0 rfl) ?_
    refine lv_bipush (v := 42) hx hb dX9_readList_73 (by decide) ?_
    replace h := ob h; obtain ⟨w_2, hw_2, h⟩ := h
    replace h := ob h; obtain ⟨cs_1, hv_1, h⟩ := h
    refine ccV (As := [.int 42]) hx hb hml hts hown hK hP hD hS hA hZ (X := 10) (by decide) rfl (ckE_some hw_2) (sc_X9_expect l dC dI cB cI cJ cZ cS cO b K V fz F cs1 u0 42 cs_1 hv_1) (cw_X9_X9_expect hts (fr := 1) (by show 1 + 1 ≤ n + 1 + 3; omega) (by show 8 + (2 + 11) + 60 * (1) ≤ 60 * (n + 1 + 3); omega)) rfl hl.1 (Nat.le_of_ble_eq_true rfl) ⟨Nat.zero_le _, Nat.zero_le _⟩ dX9_readList_75 (fun H locs hP hD hS => ?_)
    refine lv_aload_n hx hb dX9_readList_78 rfl (lv_at hl 0 rfl) ?_
    refine lv_iload_n hx hb dX9_readList_79 rfl (lv_at hl 1 rfl) ?_
    refine lv_iload_n hx hb dX9_readList_80 rfl (lv_at hl 2 rfl) ?_
    refine lv_iload_n hx hb dX9_readList_81 rfl (lv_at hl 3 rfl) ?_
    refine lv_iload hx hb dX9_readList_82 (lv_at hl 4 rfl) ?_
    refine lv_iload hx hb dX9_readList_84 (lv_at hl 5 rfl) ?_
    refine lv_iconst (v := 1) hx hb dX9_readList_86 (by decide) ?_
    refine lv_iadd hx hb dX9_readList_87 ?_
    replace h := ob h; obtain ⟨w_4, hw_4, h⟩ := h
    replace h := ob h; obtain ⟨z_3, hv_3, h⟩ := h
    refine ccI (As := [.int u1, .int u2, .int u3, .int u4, .int (u5 + 1)]) hx hb hml hts hown hK hP hD hS hA hZ (X := 10) (by decide) rfl (ckE_some hw_4) (sc_X9_complete l dC dI cB cI cJ cZ cS cO b K V fz F cs_1 u0 u1 u2 u3 u4 (u5 + 1) z_3.1 z_3.2 hv_3) (cw_X9_X9_complete hts (fr := 1) (by show 1 + 1 ≤ n + 1 + 3; omega) (by show 8 + (6 + 11) + 60 * (1) ≤ 60 * (n + 1 + 3); omega)) rfl hl.1 (Nat.le_of_ble_eq_true rfl) ⟨Nat.zero_le _, Nat.zero_le _⟩ dX9_readList_88 (fun H locs hP hD hS => ?_)
    refine lv_pop hx hb dX9_readList_91 rfl ?_
    have e1 := Option.some.inj h
    rw [e1] at hP hD
    exact W.vret hx hb hr (fun t_ ht hW => ⟨⟨(), rfl, trivial, by rw [ht]; exact hP, hD⟩, hS.F ht⟩) hS.2.2 dX9_readList_92
  have L_21 : ∀ (lf_21 : Nat), ∀ (cs1 : CS) (u0 : Nat) (u1 : Int32) (u2 : Int32) (u3 : Int32) (u4 : Int32) (u5 : Int32) (u6 : Int32) (u7 : Int32), c_X9_readList_L21 F T lf_21 cs1 u0 u1 u2 u3 u4 u5 u6 u7 = some cs9 → ∀ (H : Heap) (locs : List Loc) (ls : Array Slot), va_P (dC, dI) vwCl (cW cB cI cJ cZ cS cO b cs1) H → va_D A (cW cB cI cJ cZ cS cO b cs1) → va_S A s.heap H locs → lv_has ls 8 [(0, .ref (b + u0)), (1, .int u1), (2, .int u2), (3, .int u3), (4, .int u4), (5, .int u5), (6, .int u6), (7, .int u7)] → W p l e (headSpec (wsOf yX9_readList cX9_readList 8 none) ({ frames := n + 1 + 3, cells := 0, slots := 0, locals := 60 * (n + 1 + 3) } : Room)).room s m ([.ref (b + x0), .int x1, .int x2, .int x3, .int x4] : List Value).toArray below meth c H locs 0 0 (MQ below (va_Qv (fun (_ : Unit) => True) (fun _ t_ => va_P (dC, dI) vwCl (cW cB cI cJ cZ cS cO b cs9) t_.heap ∧ va_D A (cW cB cI cJ cZ cS cO b cs9)) A) ([.ref (b + x0), .int x1, .int x2, .int x3, .int x4] : List Value).toArray s 0 0 A) (F0 m 21 ls []) := by
    intro lf_21
    induction lf_21 with
    | zero => intro cs1 u0 u1 u2 u3 u4 u5 u6 u7 h; cases (show (none : Option CS) = _ from h)
    | succ lf_21 ih_21 =>
      have B_47 : ∀ (cs1 : CS) (u0 : Nat) (u1 : Int32) (u2 : Int32) (u3 : Int32) (u4 : Int32) (u5 : Int32) (u7 : Int32) (y0 : Int32) (y1 : Nat), c_X9_readList_b47 F T (c_X9_readList_L21 F T lf_21) cs1 u0 u1 u2 u3 u4 u5 u7 y0 y1 = some cs9 → ∀ (H : Heap) (locs : List Loc) (ls : Array Slot), va_P (dC, dI) vwCl (cW cB cI cJ cZ cS cO b cs1) H → va_D A (cW cB cI cJ cZ cS cO b cs1) → va_S A s.heap H locs → lv_has ls 8 [(0, .ref (b + u0)), (1, .int u1), (2, .int u2), (3, .int u3), (4, .int u4), (5, .int u5), (7, .int u7)] → W p l e (headSpec (wsOf yX9_readList cX9_readList 8 none) ({ frames := n + 1 + 3, cells := 0, slots := 0, locals := 60 * (n + 1 + 3) } : Room)).room s m ([.ref (b + x0), .int x1, .int x2, .int x3, .int x4] : List Value).toArray below meth c H locs 0 0 (MQ below (va_Qv (fun (_ : Unit) => True) (fun _ t_ => va_P (dC, dI) vwCl (cW cB cI cJ cZ cS cO b cs9) t_.heap ∧ va_D A (cW cB cI cJ cZ cS cO b cs9)) A) ([.ref (b + x0), .int x1, .int x2, .int x3, .int x4] : List Value).toArray s 0 0 A) (F0 m 47 ls [.int y0, .ref (b + y1)]) := by
        intro cs1 u0 u1 u2 u3 u4 u5 u7 y0 y1 h H locs ls hP hD hS hl
        unfold c_X9_readList_b47 at h
        refine lv_iconst (v := 0) hx hb dX9_readList_47 (by decide) ?_
        replace h := ob h; obtain ⟨w_6, hw_6, h⟩ := h
        replace h := ob h; obtain ⟨cs_5, hv_5, h⟩ := h
        refine ccV (As := [.int y0, .int 0]) hx hb hml hts hown hK hP hD hS hA hZ (X := 10) (by decide) rfl (ckE_some hw_6) (sc_X9_refuseNinth l dC dI cB cI cJ cZ cS cO b K V fz F cs1 y1 y0 0 cs_5 hv_5) (cw_X9_X9_refuseNinth hts (fr := 1) (by show 1 + 1 ≤ n + 1 + 3; omega) (by show 8 + (3 + 11) + 60 * (1) ≤ 60 * (n + 1 + 3); omega)) rfl hl.1 (Nat.le_of_ble_eq_true rfl) ⟨Nat.zero_le _, Nat.zero_le _⟩ dX9_readList_48 (fun H locs hP hD hS => ?_)
        refine lv_aload_n hx hb dX9_readList_51 rfl (lv_at hl 0 rfl) ?_
        replace h := ob h; obtain ⟨w_8, hw_8, h⟩ := h
        replace h := ob h; obtain ⟨cs_7, hv_7, h⟩ := h
        refine ccV (As := []) hx hb hml hts hown hK hP hD hS hA hZ (X := 10) (by decide) rfl (ckE_some hw_8) (hT_X9_readSum cs_5 u0 cs_7 hv_7) (cw_X9_X9_readSum hts (fr := n + 3) (by show n + 3 + 1 ≤ n + 1 + 3; omega) (by show 8 + (6 + 11) + 60 * (n + 3) ≤ 60 * (n + 1 + 3); omega)) rfl hl.1 (Nat.le_of_ble_eq_true rfl) ⟨Nat.zero_le _, Nat.zero_le _⟩ dX9_readList_52 (fun H locs hP hD hS => ?_)
        refine lv_iinc (v := u5 + 1) (lv' := [(5, .int (u5 + 1)), (0, .ref (b + u0)), (1, .int u1), (2, .int u2), (3, .int u3), (4, .int u4), (7, .int u7)]) hx hb dX9_readList_55 hl (k := 5) rfl rfl (by decide) rfl (fun ls hl => ?_)
        refine lv_aload_n hx hb dX9_readList_58 rfl (lv_at hl 1 rfl) ?_
        refine lv_bipush (v := 43) hx hb dX9_readList_59 (by decide) ?_
        replace h := ob h; obtain ⟨w_10, hw_10, h⟩ := h
        replace h := ob h; obtain ⟨z_9, hv_9, h⟩ := h
        refine ccI (As := [.int 43]) hx hb hml hts hown hK hP hD hS hA hZ (X := 10) (by decide) rfl (ckE_some hw_10) (sc_X9_accept l dC dI cB cI cJ cZ cS cO b K V fz F cs_7 u0 43 z_9.1 z_9.2 hv_9) (cw_X9_X9_accept hts (fr := 1) (by show 1 + 1 ≤ n + 1 + 3; omega) (by show 8 + (3 + 11) + 60 * (1) ≤ 60 * (n + 1 + 3); omega)) rfl hl.1 (Nat.le_of_ble_eq_true rfl) ⟨Nat.zero_le _, Nat.zero_le _⟩ dX9_readList_61 (fun H locs hP hD hS => ?_)
        refine lv_istore (lv' := [(6, .int z_9.2), (5, .int (u5 + 1)), (0, .ref (b + u0)), (1, .int u1), (2, .int u2), (3, .int u3), (4, .int u4), (7, .int u7)]) hx hb dX9_readList_64 hl (by decide) rfl (fun ls hl => ?_)
        refine lv_iinc (v := u7 + 1) (lv' := [(7, .int (u7 + 1)), (6, .int z_9.2), (5, .int (u5 + 1)), (0, .ref (b + u0)), (1, .int u1), (2, .int u2), (3, .int u3), (4, .int u4)]) hx hb dX9_readList_66 hl (k := 7) rfl rfl (by decide) rfl (fun ls hl => ?_)
        refine lv_goto (tgt := 21) hx hb dX9_readList_69 (by decide) ?_
        exact ih_21 z_9.1 u0 u1 u2 u3 u4 (u5 + 1) z_9.2 (u7 + 1) h _ _ _ hP hD hS (lv_sub hl [3, 4, 5, 6, 7, 2, 1, 0] rfl)
      intro cs1 u0 u1 u2 u3 u4 u5 u6 u7 h H locs ls hP hD hS hl
      rw [c_X9_readList_L21] at h
      refine lv_iload hx hb dX9_readList_21 (lv_at hl 7 rfl) ?_
      refine lv_sipush (v := 2000) hx hb dX9_readList_23 (by decide) ?_
      refine lv_icmp_ge (tgt := 72) hx hb dX9_readList_26 (by decide) (fun c_11 => ?_) (fun c_11 => ?_)
      · skip
        replace h := (if_pos c_11).symm.trans h
        exact B_72 cs1 u0 u1 u2 u3 u4 u5 h _ _ _ hP hD hS (lv_sub hl [0, 1, 2, 3, 4, 5] rfl)
      · skip
        replace h := (if_neg c_11).symm.trans h
        refine lv_iload hx hb dX9_readList_29 (lv_at hl 6 rfl) ?_
        refine lv_if_eq (tgt := 72) hx hb dX9_readList_31 (by decide) (fun c_12 => ?_) (fun c_12 => ?_)
        · skip
          replace h := (if_pos c_12).symm.trans h
          exact B_72 cs1 u0 u1 u2 u3 u4 u5 h _ _ _ hP hD hS (lv_sub hl [0, 1, 2, 3, 4, 5] rfl)
        · skip
          replace h := (if_neg c_12).symm.trans h
          refine lv_aload_n hx hb dX9_readList_34 rfl (lv_at hl 0 rfl) ?_
          refine lv_iload hx hb dX9_readList_35 (lv_at hl 5 rfl) ?_
          refine lv_bipush (v := 8) hx hb dX9_readList_37 (by decide) ?_
          refine lv_icmp_lt (tgt := 46) hx hb dX9_readList_39 (by decide) (fun c_13 => ?_) (fun c_13 => ?_)
          · skip
            replace h := (if_pos c_13).symm.trans h
            refine lv_iconst (v := 0) hx hb dX9_readList_46 (by decide) ?_
            exact B_47 cs1 u0 u1 u2 u3 u4 u5 u7 0 u0 h _ _ _ hP hD hS (lv_sub hl [0, 1, 2, 3, 4, 5, 7] rfl)
          · skip
            replace h := (if_neg c_13).symm.trans h
            refine lv_iconst (v := 1) hx hb dX9_readList_42 (by decide) ?_
            refine lv_goto (tgt := 47) hx hb dX9_readList_43 (by decide) ?_
            exact B_47 cs1 u0 u1 u2 u3 u4 u5 u7 1 u0 h _ _ _ hP hD hS (lv_sub hl [0, 1, 2, 3, 4, 5, 7] rfl)
  have h := hf
  unfold cb_X9_readList at h
  refine lv_aload_n hx hb dX9_readList_0 rfl (lv_at hl 0 rfl) ?_
  refine lv_bipush (v := 27) hx hb dX9_readList_1 (by decide) ?_
  replace h := ob h; obtain ⟨w_15, hw_15, h⟩ := h
  replace h := ob h; obtain ⟨cs_14, hv_14, h⟩ := h
  refine ccV (As := [.int 27]) hx hb hml hts hown hK hP hD hS hA hZ (X := 10) (by decide) rfl (ckE_some hw_15) (sc_X9_expect l dC dI cB cI cJ cZ cS cO b K V fz F cs x0 27 cs_14 hv_14) (cw_X9_X9_expect hts (fr := 1) (by show 1 + 1 ≤ n + 1 + 3; omega) (by show 8 + (2 + 11) + 60 * (1) ≤ 60 * (n + 1 + 3); omega)) rfl hl.1 (Nat.le_of_ble_eq_true rfl) ⟨Nat.zero_le _, Nat.zero_le _⟩ dX9_readList_3 (fun H locs hP hD hS => ?_)
  refine lv_aload_n hx hb dX9_readList_6 rfl (lv_at hl 0 rfl) ?_
  refine lv_bipush (v := 41) hx hb dX9_readList_7 (by decide) ?_
  replace h := ob h; obtain ⟨w_17, hw_17, h⟩ := h
  replace h := ob h; obtain ⟨cs_16, hv_16, h⟩ := h
  refine ccV (As := [.int 41]) hx hb hml hts hown hK hP hD hS hA hZ (X := 10) (by decide) rfl (ckE_some hw_17) (sc_X9_expect l dC dI cB cI cJ cZ cS cO b K V fz F cs_14 x0 41 cs_16 hv_16) (cw_X9_X9_expect hts (fr := 1) (by show 1 + 1 ≤ n + 1 + 3; omega) (by show 8 + (2 + 11) + 60 * (1) ≤ 60 * (n + 1 + 3); omega)) rfl hl.1 (Nat.le_of_ble_eq_true rfl) ⟨Nat.zero_le _, Nat.zero_le _⟩ dX9_readList_9 (fun H locs hP hD hS => ?_)
  refine lv_iconst (v := 0) hx hb dX9_readList_12 (by decide) ?_
  refine lv_istore (lv' := [(5, .int 0), (0, .ref (b + x0)), (1, .int x1), (2, .int x2), (3, .int x3), (4, .int x4)]) hx hb dX9_readList_13 hl (by decide) rfl (fun ls hl => ?_)
  refine lv_iconst (v := 1) hx hb dX9_readList_15 (by decide) ?_
  refine lv_istore (lv' := [(6, .int 1), (5, .int 0), (0, .ref (b + x0)), (1, .int x1), (2, .int x2), (3, .int x3), (4, .int x4)]) hx hb dX9_readList_16 hl (by decide) rfl (fun ls hl => ?_)
  refine lv_iconst (v := 0) hx hb dX9_readList_18 (by decide) ?_
  refine lv_istore (lv' := [(7, .int 0), (6, .int 1), (5, .int 0), (0, .ref (b + x0)), (1, .int x1), (2, .int x2), (3, .int x3), (4, .int x4)]) hx hb dX9_readList_19 hl (by decide) rfl (fun ls hl => ?_)
  exact L_21 F cs_16 x0 x1 x2 x3 x4 0 1 0 h _ _ _ hP hD hS (lv_sub hl [3, 4, 5, 6, 7, 2, 1, 0] rfl)
theorem sgc_X9_readExpr (l : Launch) (dC : Nat → ClassId) (dI : Nat → Nat → Nat) (cB cI cJ cZ cS cO : ClassId) (b : Nat) (K V : Nat → Nat) (fz : Value) (F : Nat) : ∀ n : Nat, (∀ (cs : CS) (x0 : Nat) (cs9 : CS) (r9 : Int32), (tabc_X9_readExpr F n).1 cs x0 = some (cs9, r9) → ocI l dC dI cB cI cJ cZ cS cO b K V fz yX9_readExpr (wsOf yX9_readExpr cX9_readExpr 5 (some .int)) (n + 3) [.ref (b + x0)] cs cs9 r9) ∧ (∀ (cs : CS) (x0 : Nat) (cs9 : CS), (tabc_X9_readExpr F n).2.1 cs x0 = some cs9 → ocV l dC dI cB cI cJ cZ cS cO b K V fz yX9_readConjunction (wsOf yX9_readConjunction cX9_readConjunction 5 none) (n + 3) [.ref (b + x0)] cs cs9) ∧ (∀ (cs : CS) (x0 : Nat) (cs9 : CS), (tabc_X9_readExpr F n).2.2.1 cs x0 = some cs9 → ocV l dC dI cB cI cJ cZ cS cO b K V fz yX9_readNegation (wsOf yX9_readNegation cX9_readNegation 3 none) (n + 3) [.ref (b + x0)] cs cs9) ∧ (∀ (cs : CS) (x0 : Nat) (cs9 : CS), (tabc_X9_readExpr F n).2.2.2.1 cs x0 = some cs9 → ocV l dC dI cB cI cJ cZ cS cO b K V fz yX9_readTest (wsOf yX9_readTest cX9_readTest 6 none) (n + 3) [.ref (b + x0)] cs cs9) ∧ (∀ (cs : CS) (x0 : Nat) (cs9 : CS), (tabc_X9_readExpr F n).2.2.2.2.1 cs x0 = some cs9 → ocV l dC dI cB cI cJ cZ cS cO b K V fz yX9_readSum (wsOf yX9_readSum cX9_readSum 6 none) (n + 3) [.ref (b + x0)] cs cs9) ∧ (∀ (cs : CS) (x0 : Nat) (cs9 : CS), (tabc_X9_readExpr F n).2.2.2.2.2.1 cs x0 = some cs9 → ocV l dC dI cB cI cJ cZ cS cO b K V fz yX9_readPart (wsOf yX9_readPart cX9_readPart 6 none) (n + 3) [.ref (b + x0)] cs cs9) ∧ (∀ (cs : CS) (x0 : Nat) (cs9 : CS), (tabc_X9_readExpr F n).2.2.2.2.2.2.1 cs x0 = some cs9 → ocV l dC dI cB cI cJ cZ cS cO b K V fz yX9_readSign (wsOf yX9_readSign cX9_readSign 3 none) (n + 3) [.ref (b + x0)] cs cs9) ∧ (∀ (cs : CS) (x0 : Nat) (cs9 : CS), (tabc_X9_readExpr F n).2.2.2.2.2.2.2.1 cs x0 = some cs9 → ocV l dC dI cB cI cJ cZ cS cO b K V fz yX9_readOne (wsOf yX9_readOne cX9_readOne 1 none) (n + 3) [.ref (b + x0)] cs cs9) ∧ (∀ (cs : CS) (x0 : Nat) (cs9 : CS), (tabc_X9_readExpr F n).2.2.2.2.2.2.2.2.1 cs x0 = some cs9 → ocV l dC dI cB cI cJ cZ cS cO b K V fz yX9_readCase (wsOf yX9_readCase cX9_readCase 3 none) (n + 3) [.ref (b + x0)] cs cs9) ∧ (∀ (cs : CS) (x0 : Nat) (cs9 : CS), (tabc_X9_readExpr F n).2.2.2.2.2.2.2.2.2.1 cs x0 = some cs9 → ocV l dC dI cB cI cJ cZ cS cO b K V fz yX9_readSpan (wsOf yX9_readSpan cX9_readSpan 3 none) (n + 3) [.ref (b + x0)] cs cs9) ∧ (∀ (cs : CS) (x0 : Nat) (cs9 : CS), (tabc_X9_readExpr F n).2.2.2.2.2.2.2.2.2.2.1 cs x0 = some cs9 → ocV l dC dI cB cI cJ cZ cS cO b K V fz yX9_readAggregate (wsOf yX9_readAggregate cX9_readAggregate 7 none) (n + 3) [.ref (b + x0)] cs cs9) ∧ (∀ (cs : CS) (x0 : Nat) (x1 : Int32) (x2 : Int32) (x3 : Int32) (x4 : Int32) (cs9 : CS), (tabc_X9_readExpr F n).2.2.2.2.2.2.2.2.2.2.2 cs x0 x1 x2 x3 x4 = some cs9 → ocV l dC dI cB cI cJ cZ cS cO b K V fz yX9_readList (wsOf yX9_readList cX9_readList 8 none) (n + 3) [.ref (b + x0), .int x1, .int x2, .int x3, .int x4] cs cs9) := by
  intro n
  induction n with
  | zero => exact ⟨fun _ _ _ _ h => (by cases (show (none : Option (CS × Int32)) = _ from h)), fun _ _ _ h => (by cases (show (none : Option CS) = _ from h)), fun _ _ _ h => (by cases (show (none : Option CS) = _ from h)), fun _ _ _ h => (by cases (show (none : Option CS) = _ from h)), fun _ _ _ h => (by cases (show (none : Option CS) = _ from h)), fun _ _ _ h => (by cases (show (none : Option CS) = _ from h)), fun _ _ _ h => (by cases (show (none : Option CS) = _ from h)), fun _ _ _ h => (by cases (show (none : Option CS) = _ from h)), fun _ _ _ h => (by cases (show (none : Option CS) = _ from h)), fun _ _ _ h => (by cases (show (none : Option CS) = _ from h)), fun _ _ _ h => (by cases (show (none : Option CS) = _ from h)), fun _ _ _ _ _ _ _ h => (by cases (show (none : Option CS) = _ from h))⟩
  | succ n ih =>
    obtain ⟨hh0, hh1, hh2, hh3, hh4, hh5, hh6, hh7, hh8, hh9, hh10, hh11⟩ := ih
    exact ⟨fun cs w0 w1 w2 hf => sbc_X9_readExpr l dC dI cB cI cJ cZ cS cO b K V fz F n (tabc_X9_readExpr F n) hh0 hh1 hh2 hh3 hh4 hh5 hh6 hh7 hh8 hh9 hh10 hh11 cs w0 w1 w2 hf, fun cs w0 w1 hf => sbc_X9_readConjunction l dC dI cB cI cJ cZ cS cO b K V fz F n (tabc_X9_readExpr F n) hh0 hh1 hh2 hh3 hh4 hh5 hh6 hh7 hh8 hh9 hh10 hh11 cs w0 w1 hf, fun cs w0 w1 hf => sbc_X9_readNegation l dC dI cB cI cJ cZ cS cO b K V fz F n (tabc_X9_readExpr F n) hh0 hh1 hh2 hh3 hh4 hh5 hh6 hh7 hh8 hh9 hh10 hh11 cs w0 w1 hf, fun cs w0 w1 hf => sbc_X9_readTest l dC dI cB cI cJ cZ cS cO b K V fz F n (tabc_X9_readExpr F n) hh0 hh1 hh2 hh3 hh4 hh5 hh6 hh7 hh8 hh9 hh10 hh11 cs w0 w1 hf, fun cs w0 w1 hf => sbc_X9_readSum l dC dI cB cI cJ cZ cS cO b K V fz F n (tabc_X9_readExpr F n) hh0 hh1 hh2 hh3 hh4 hh5 hh6 hh7 hh8 hh9 hh10 hh11 cs w0 w1 hf, fun cs w0 w1 hf => sbc_X9_readPart l dC dI cB cI cJ cZ cS cO b K V fz F n (tabc_X9_readExpr F n) hh0 hh1 hh2 hh3 hh4 hh5 hh6 hh7 hh8 hh9 hh10 hh11 cs w0 w1 hf, fun cs w0 w1 hf => sbc_X9_readSign l dC dI cB cI cJ cZ cS cO b K V fz F n (tabc_X9_readExpr F n) hh0 hh1 hh2 hh3 hh4 hh5 hh6 hh7 hh8 hh9 hh10 hh11 cs w0 w1 hf, fun cs w0 w1 hf => sbc_X9_readOne l dC dI cB cI cJ cZ cS cO b K V fz F n (tabc_X9_readExpr F n) hh0 hh1 hh2 hh3 hh4 hh5 hh6 hh7 hh8 hh9 hh10 hh11 cs w0 w1 hf, fun cs w0 w1 hf => sbc_X9_readCase l dC dI cB cI cJ cZ cS cO b K V fz F n (tabc_X9_readExpr F n) hh0 hh1 hh2 hh3 hh4 hh5 hh6 hh7 hh8 hh9 hh10 hh11 cs w0 w1 hf, fun cs w0 w1 hf => sbc_X9_readSpan l dC dI cB cI cJ cZ cS cO b K V fz F n (tabc_X9_readExpr F n) hh0 hh1 hh2 hh3 hh4 hh5 hh6 hh7 hh8 hh9 hh10 hh11 cs w0 w1 hf, fun cs w0 w1 hf => sbc_X9_readAggregate l dC dI cB cI cJ cZ cS cO b K V fz F n (tabc_X9_readExpr F n) hh0 hh1 hh2 hh3 hh4 hh5 hh6 hh7 hh8 hh9 hh10 hh11 cs w0 w1 hf, fun cs w0 w1 w2 w3 w4 w5 hf => sbc_X9_readList l dC dI cB cI cJ cZ cS cO b K V fz F n (tabc_X9_readExpr F n) hh0 hh1 hh2 hh3 hh4 hh5 hh6 hh7 hh8 hh9 hh10 hh11 cs w0 w1 w2 w3 w4 w5 hf⟩
def c_X9_readExpr (F n : Nat) (cs : CS) (x0 : Nat) : Option (CS × Int32) := (tabc_X9_readExpr F n).1 cs x0
theorem sc_X9_readExpr (l : Launch) (dC : Nat → ClassId) (dI : Nat → Nat → Nat) (cB cI cJ cZ cS cO : ClassId) (b : Nat) (K V : Nat → Nat) (fz : Value) (F n : Nat) (cs : CS) (x0 : Nat) (cs9 : CS) (r9 : Int32) (hf : c_X9_readExpr F n cs x0 = some (cs9, r9)) : ocI l dC dI cB cI cJ cZ cS cO b K V fz yX9_readExpr (wsOf yX9_readExpr cX9_readExpr 5 (some .int)) (n + 3) [.ref (b + x0)] cs cs9 r9 := (sgc_X9_readExpr l dC dI cB cI cJ cZ cS cO b K V fz F n).1 cs x0 cs9 r9 hf
def c_X9_readConjunction (F n : Nat) (cs : CS) (x0 : Nat) : Option CS := (tabc_X9_readExpr F n).2.1 cs x0
theorem sc_X9_readConjunction (l : Launch) (dC : Nat → ClassId) (dI : Nat → Nat → Nat) (cB cI cJ cZ cS cO : ClassId) (b : Nat) (K V : Nat → Nat) (fz : Value) (F n : Nat) (cs : CS) (x0 : Nat) (cs9 : CS) (hf : c_X9_readConjunction F n cs x0 = some cs9) : ocV l dC dI cB cI cJ cZ cS cO b K V fz yX9_readConjunction (wsOf yX9_readConjunction cX9_readConjunction 5 none) (n + 3) [.ref (b + x0)] cs cs9 := (sgc_X9_readExpr l dC dI cB cI cJ cZ cS cO b K V fz F n).2.1 cs x0 cs9 hf
def c_X9_readNegation (F n : Nat) (cs : CS) (x0 : Nat) : Option CS := (tabc_X9_readExpr F n).2.2.1 cs x0
theorem sc_X9_readNegation (l : Launch) (dC : Nat → ClassId) (dI : Nat → Nat → Nat) (cB cI cJ cZ cS cO : ClassId) (b : Nat) (K V : Nat → Nat) (fz : Value) (F n : Nat) (cs : CS) (x0 : Nat) (cs9 : CS) (hf : c_X9_readNegation F n cs x0 = some cs9) : ocV l dC dI cB cI cJ cZ cS cO b K V fz yX9_readNegation (wsOf yX9_readNegation cX9_readNegation 3 none) (n + 3) [.ref (b + x0)] cs cs9 := (sgc_X9_readExpr l dC dI cB cI cJ cZ cS cO b K V fz F n).2.2.1 cs x0 cs9 hf
def c_X9_readTest (F n : Nat) (cs : CS) (x0 : Nat) : Option CS := (tabc_X9_readExpr F n).2.2.2.1 cs x0
theorem sc_X9_readTest (l : Launch) (dC : Nat → ClassId) (dI : Nat → Nat → Nat) (cB cI cJ cZ cS cO : ClassId) (b : Nat) (K V : Nat → Nat) (fz : Value) (F n : Nat) (cs : CS) (x0 : Nat) (cs9 : CS) (hf : c_X9_readTest F n cs x0 = some cs9) : ocV l dC dI cB cI cJ cZ cS cO b K V fz yX9_readTest (wsOf yX9_readTest cX9_readTest 6 none) (n + 3) [.ref (b + x0)] cs cs9 := (sgc_X9_readExpr l dC dI cB cI cJ cZ cS cO b K V fz F n).2.2.2.1 cs x0 cs9 hf
def c_X9_readSum (F n : Nat) (cs : CS) (x0 : Nat) : Option CS := (tabc_X9_readExpr F n).2.2.2.2.1 cs x0
theorem sc_X9_readSum (l : Launch) (dC : Nat → ClassId) (dI : Nat → Nat → Nat) (cB cI cJ cZ cS cO : ClassId) (b : Nat) (K V : Nat → Nat) (fz : Value) (F n : Nat) (cs : CS) (x0 : Nat) (cs9 : CS) (hf : c_X9_readSum F n cs x0 = some cs9) : ocV l dC dI cB cI cJ cZ cS cO b K V fz yX9_readSum (wsOf yX9_readSum cX9_readSum 6 none) (n + 3) [.ref (b + x0)] cs cs9 := (sgc_X9_readExpr l dC dI cB cI cJ cZ cS cO b K V fz F n).2.2.2.2.1 cs x0 cs9 hf
def c_X9_readPart (F n : Nat) (cs : CS) (x0 : Nat) : Option CS := (tabc_X9_readExpr F n).2.2.2.2.2.1 cs x0
theorem sc_X9_readPart (l : Launch) (dC : Nat → ClassId) (dI : Nat → Nat → Nat) (cB cI cJ cZ cS cO : ClassId) (b : Nat) (K V : Nat → Nat) (fz : Value) (F n : Nat) (cs : CS) (x0 : Nat) (cs9 : CS) (hf : c_X9_readPart F n cs x0 = some cs9) : ocV l dC dI cB cI cJ cZ cS cO b K V fz yX9_readPart (wsOf yX9_readPart cX9_readPart 6 none) (n + 3) [.ref (b + x0)] cs cs9 := (sgc_X9_readExpr l dC dI cB cI cJ cZ cS cO b K V fz F n).2.2.2.2.2.1 cs x0 cs9 hf
def c_X9_readSign (F n : Nat) (cs : CS) (x0 : Nat) : Option CS := (tabc_X9_readExpr F n).2.2.2.2.2.2.1 cs x0
theorem sc_X9_readSign (l : Launch) (dC : Nat → ClassId) (dI : Nat → Nat → Nat) (cB cI cJ cZ cS cO : ClassId) (b : Nat) (K V : Nat → Nat) (fz : Value) (F n : Nat) (cs : CS) (x0 : Nat) (cs9 : CS) (hf : c_X9_readSign F n cs x0 = some cs9) : ocV l dC dI cB cI cJ cZ cS cO b K V fz yX9_readSign (wsOf yX9_readSign cX9_readSign 3 none) (n + 3) [.ref (b + x0)] cs cs9 := (sgc_X9_readExpr l dC dI cB cI cJ cZ cS cO b K V fz F n).2.2.2.2.2.2.1 cs x0 cs9 hf
def c_X9_readOne (F n : Nat) (cs : CS) (x0 : Nat) : Option CS := (tabc_X9_readExpr F n).2.2.2.2.2.2.2.1 cs x0
theorem sc_X9_readOne (l : Launch) (dC : Nat → ClassId) (dI : Nat → Nat → Nat) (cB cI cJ cZ cS cO : ClassId) (b : Nat) (K V : Nat → Nat) (fz : Value) (F n : Nat) (cs : CS) (x0 : Nat) (cs9 : CS) (hf : c_X9_readOne F n cs x0 = some cs9) : ocV l dC dI cB cI cJ cZ cS cO b K V fz yX9_readOne (wsOf yX9_readOne cX9_readOne 1 none) (n + 3) [.ref (b + x0)] cs cs9 := (sgc_X9_readExpr l dC dI cB cI cJ cZ cS cO b K V fz F n).2.2.2.2.2.2.2.1 cs x0 cs9 hf
def c_X9_readCase (F n : Nat) (cs : CS) (x0 : Nat) : Option CS := (tabc_X9_readExpr F n).2.2.2.2.2.2.2.2.1 cs x0
theorem sc_X9_readCase (l : Launch) (dC : Nat → ClassId) (dI : Nat → Nat → Nat) (cB cI cJ cZ cS cO : ClassId) (b : Nat) (K V : Nat → Nat) (fz : Value) (F n : Nat) (cs : CS) (x0 : Nat) (cs9 : CS) (hf : c_X9_readCase F n cs x0 = some cs9) : ocV l dC dI cB cI cJ cZ cS cO b K V fz yX9_readCase (wsOf yX9_readCase cX9_readCase 3 none) (n + 3) [.ref (b + x0)] cs cs9 := (sgc_X9_readExpr l dC dI cB cI cJ cZ cS cO b K V fz F n).2.2.2.2.2.2.2.2.1 cs x0 cs9 hf
def c_X9_readSpan (F n : Nat) (cs : CS) (x0 : Nat) : Option CS := (tabc_X9_readExpr F n).2.2.2.2.2.2.2.2.2.1 cs x0
theorem sc_X9_readSpan (l : Launch) (dC : Nat → ClassId) (dI : Nat → Nat → Nat) (cB cI cJ cZ cS cO : ClassId) (b : Nat) (K V : Nat → Nat) (fz : Value) (F n : Nat) (cs : CS) (x0 : Nat) (cs9 : CS) (hf : c_X9_readSpan F n cs x0 = some cs9) : ocV l dC dI cB cI cJ cZ cS cO b K V fz yX9_readSpan (wsOf yX9_readSpan cX9_readSpan 3 none) (n + 3) [.ref (b + x0)] cs cs9 := (sgc_X9_readExpr l dC dI cB cI cJ cZ cS cO b K V fz F n).2.2.2.2.2.2.2.2.2.1 cs x0 cs9 hf
def c_X9_readAggregate (F n : Nat) (cs : CS) (x0 : Nat) : Option CS := (tabc_X9_readExpr F n).2.2.2.2.2.2.2.2.2.2.1 cs x0
theorem sc_X9_readAggregate (l : Launch) (dC : Nat → ClassId) (dI : Nat → Nat → Nat) (cB cI cJ cZ cS cO : ClassId) (b : Nat) (K V : Nat → Nat) (fz : Value) (F n : Nat) (cs : CS) (x0 : Nat) (cs9 : CS) (hf : c_X9_readAggregate F n cs x0 = some cs9) : ocV l dC dI cB cI cJ cZ cS cO b K V fz yX9_readAggregate (wsOf yX9_readAggregate cX9_readAggregate 7 none) (n + 3) [.ref (b + x0)] cs cs9 := (sgc_X9_readExpr l dC dI cB cI cJ cZ cS cO b K V fz F n).2.2.2.2.2.2.2.2.2.2.1 cs x0 cs9 hf
def c_X9_readList (F n : Nat) (cs : CS) (x0 : Nat) (x1 : Int32) (x2 : Int32) (x3 : Int32) (x4 : Int32) : Option CS := (tabc_X9_readExpr F n).2.2.2.2.2.2.2.2.2.2.2 cs x0 x1 x2 x3 x4
theorem sc_X9_readList (l : Launch) (dC : Nat → ClassId) (dI : Nat → Nat → Nat) (cB cI cJ cZ cS cO : ClassId) (b : Nat) (K V : Nat → Nat) (fz : Value) (F n : Nat) (cs : CS) (x0 : Nat) (x1 : Int32) (x2 : Int32) (x3 : Int32) (x4 : Int32) (cs9 : CS) (hf : c_X9_readList F n cs x0 x1 x2 x3 x4 = some cs9) : ocV l dC dI cB cI cJ cZ cS cO b K V fz yX9_readList (wsOf yX9_readList cX9_readList 8 none) (n + 3) [.ref (b + x0), .int x1, .int x2, .int x3, .int x4] cs cs9 := (sgc_X9_readExpr l dC dI cB cI cJ cZ cS cO b K V fz F n).2.2.2.2.2.2.2.2.2.2.2 cs x0 x1 x2 x3 x4 cs9 hf
theorem dX9_readItem_0 : decode cX9_readItem 0 = .ok (.aload_n 0, 1) := by decide +kernel
theorem dX9_readItem_1 : decode cX9_readItem 1 = .ok (.aload_n 1, 1) := by decide +kernel
theorem dX9_readItem_2 : decode cX9_readItem 2 = .ok (.invokevirtual 166, 3) := by decide +kernel
theorem dX9_readItem_5 : decode cX9_readItem 5 = .ok (.iconst 1, 1) := by decide +kernel
theorem dX9_readItem_6 : decode cX9_readItem 6 = .ok (.invokevirtual 170, 3) := by decide +kernel
theorem dX9_readItem_9 : decode cX9_readItem 9 = .ok (.aload_n 0, 1) := by decide +kernel
theorem dX9_readItem_10 : decode cX9_readItem 10 = .ok (.invokevirtual 118, 3) := by decide +kernel
theorem dX9_readItem_13 : decode cX9_readItem 13 = .ok (.istore_n 2, 1) := by decide +kernel
theorem dX9_readItem_14 : decode cX9_readItem 14 = .ok (.aload_n 0, 1) := by decide +kernel
theorem dX9_readItem_15 : decode cX9_readItem 15 = .ok (.invokevirtual 174, 3) := by decide +kernel
theorem dX9_readItem_18 : decode cX9_readItem 18 = .ok (.istore_n 3, 1) := by decide +kernel
theorem dX9_readItem_19 : decode cX9_readItem 19 = .ok (.ldc2_w 177, 3) := by decide +kernel
theorem dX9_readItem_22 : decode cX9_readItem 22 = .ok (.lstore 4, 2) := by decide +kernel
theorem dX9_readItem_24 : decode cX9_readItem 24 = .ok (.aload_n 0, 1) := by decide +kernel
theorem dX9_readItem_25 : decode cX9_readItem 25 = .ok (.bipush 17, 2) := by decide +kernel
theorem dX9_readItem_27 : decode cX9_readItem 27 = .ok (.invokevirtual 48, 3) := by decide +kernel
theorem dX9_readItem_30 : decode cX9_readItem 30 = .ok (.ifCond .eq 12, 3) := by decide +kernel
theorem dX9_readItem_33 : decode cX9_readItem 33 = .ok (.aload_n 0, 1) := by decide +kernel
theorem dX9_readItem_34 : decode cX9_readItem 34 = .ok (.invokevirtual 225, 3) := by decide +kernel
theorem dX9_readItem_37 : decode cX9_readItem 37 = .ok (.lstore 4, 2) := by decide +kernel
theorem dX9_readItem_39 : decode cX9_readItem 39 = .ok (.goto 52, 3) := by decide +kernel
theorem dX9_readItem_42 : decode cX9_readItem 42 = .ok (.aload_n 0, 1) := by decide +kernel
theorem dX9_readItem_43 : decode cX9_readItem 43 = .ok (.getfield 26, 3) := by decide +kernel
theorem dX9_readItem_46 : decode cX9_readItem 46 = .ok (.iload_n 3, 1) := by decide +kernel
theorem dX9_readItem_47 : decode cX9_readItem 47 = .ok (.invokevirtual 228, 3) := by decide +kernel
theorem dX9_readItem_50 : decode cX9_readItem 50 = .ok (.ifCond .eq 41, 3) := by decide +kernel
theorem dX9_readItem_53 : decode cX9_readItem 53 = .ok (.aload_n 0, 1) := by decide +kernel
theorem dX9_readItem_54 : decode cX9_readItem 54 = .ok (.getfield 26, 3) := by decide +kernel
theorem dX9_readItem_57 : decode cX9_readItem 57 = .ok (.getfield 229, 3) := by decide +kernel
theorem dX9_readItem_60 : decode cX9_readItem 60 = .ok (.iload_n 3, 1) := by decide +kernel
theorem dX9_readItem_61 : decode cX9_readItem 61 = .ok (.iaload, 1) := by decide +kernel
theorem dX9_readItem_62 : decode cX9_readItem 62 = .ok (.bipush 39, 2) := by decide +kernel
theorem dX9_readItem_64 : decode cX9_readItem 64 = .ok (.if_icmp .ne 27, 3) := by decide +kernel
theorem dX9_readItem_67 : decode cX9_readItem 67 = .ok (.aload_n 0, 1) := by decide +kernel
theorem dX9_readItem_68 : decode cX9_readItem 68 = .ok (.getfield 26, 3) := by decide +kernel
theorem dX9_readItem_71 : decode cX9_readItem 71 = .ok (.getfield 230, 3) := by decide +kernel
theorem dX9_readItem_74 : decode cX9_readItem 74 = .ok (.iload_n 3, 1) := by decide +kernel
theorem dX9_readItem_75 : decode cX9_readItem 75 = .ok (.iaload, 1) := by decide +kernel
theorem dX9_readItem_76 : decode cX9_readItem 76 = .ok (.iload_n 2, 1) := by decide +kernel
theorem dX9_readItem_77 : decode cX9_readItem 77 = .ok (.if_icmp .ne 14, 3) := by decide +kernel
theorem dX9_readItem_80 : decode cX9_readItem 80 = .ok (.aload_n 0, 1) := by decide +kernel
theorem dX9_readItem_81 : decode cX9_readItem 81 = .ok (.getfield 26, 3) := by decide +kernel
theorem dX9_readItem_84 : decode cX9_readItem 84 = .ok (.getfield 231, 3) := by decide +kernel
theorem dX9_readItem_87 : decode cX9_readItem 87 = .ok (.iload_n 3, 1) := by decide +kernel
theorem dX9_readItem_88 : decode cX9_readItem 88 = .ok (.laload, 1) := by decide +kernel
theorem dX9_readItem_89 : decode cX9_readItem 89 = .ok (.lstore 4, 2) := by decide +kernel
theorem dX9_readItem_91 : decode cX9_readItem 91 = .ok (.aload_n 1, 1) := by decide +kernel
theorem dX9_readItem_92 : decode cX9_readItem 92 = .ok (.iload_n 3, 1) := by decide +kernel
theorem dX9_readItem_93 : decode cX9_readItem 93 = .ok (.lload 4, 2) := by decide +kernel
theorem dX9_readItem_95 : decode cX9_readItem 95 = .ok (.iconst 0, 1) := by decide +kernel
theorem dX9_readItem_96 : decode cX9_readItem 96 = .ok (.iconst 1, 1) := by decide +kernel
theorem dX9_readItem_97 : decode cX9_readItem 97 = .ok (.invokevirtual 179, 3) := by decide +kernel
theorem dX9_readItem_100 : decode cX9_readItem 100 = .ok (.return_, 1) := by decide +kernel
def c_X9_readItem_b91 (F : Nat) (cs1 : CS) (u1 : Nat) (u3 : Int32) (u4 : Int64) : Option CS := Option.bind (ckE cs1 3 u1) fun _ => Option.bind (c_X2_add F cs1 u1 u3 u4 0 1) fun cs_1 => some cs_1
def c_X9_readItem (F : Nat) (cs : CS) (x0 : Nat) (x1 : Nat) : Option CS := Option.bind (ckE cs 3 x1) fun _ => Option.bind (c_X2_isFull F cs x1) fun v_3 => Option.bind (ckE cs 10 x0) fun _ => Option.bind (c_X9_refuseNinth F cs x0 v_3 1) fun cs_5 => Option.bind (ckE cs_5 10 x0) fun _ => Option.bind (c_X9_here F cs_5 x0) fun v_7 => Option.bind (ckE cs_5 10 x0) fun _ => Option.bind (c_X9_readExpr F 300 cs_5 x0) fun z_9 => Option.bind (ckE z_9.1 10 x0) fun _ => Option.bind (c_X9_accept F z_9.1 x0 17) fun z_11 => if z_11.2 = 0 then (Option.bind (gR z_11.1 10 322 x0) fun v_14 => Option.bind (v_14) fun i_16 => Option.bind (ckE z_11.1 2 i_16) fun _ => Option.bind (c_X1_has F z_11.1 i_16 z_9.2) fun v_15 => if v_15 = 0 then (c_X9_readItem_b91 F z_11.1 x1 z_9.2 (-1)) else (Option.bind (gR z_11.1 10 322 x0) fun v_19 => Option.bind (v_19) fun i_20 => Option.bind (gA z_11.1 2 65 i_20) fun v_21 => Option.bind (rA z_11.1 65 i_20 v_21 z_9.2) fun v_22 => if v_22 = 39 then (Option.bind (gR z_11.1 10 322 x0) fun v_24 => Option.bind (v_24) fun i_25 => Option.bind (gA z_11.1 2 66 i_25) fun v_26 => Option.bind (rA z_11.1 66 i_25 v_26 z_9.2) fun v_27 => if v_27 = v_7 then (Option.bind (gR z_11.1 10 322 x0) fun v_29 => Option.bind (v_29) fun i_30 => Option.bind (gA z_11.1 2 69 i_30) fun v_31 => Option.bind (rB z_11.1 69 i_30 v_31 z_9.2) fun v_32 => c_X9_readItem_b91 F z_11.1 x1 z_9.2 v_32) else (c_X9_readItem_b91 F z_11.1 x1 z_9.2 (-1))) else (c_X9_readItem_b91 F z_11.1 x1 z_9.2 (-1)))) else (Option.bind (ckE z_11.1 10 x0) fun _ => Option.bind (c_X9_readName F z_11.1 x0) fun z_33 => c_X9_readItem_b91 F z_33.1 x1 z_9.2 z_33.2)
theorem cw_X9_X9_readItem {R : Room} {s : State} {args : Array Value} {y0 : MethodName} {c0 : ByteArray} {n0 : Nat} {r0 : Option FieldType} (hts : ∀ w ∈ wsOf y0 c0 n0 r0, w.before args s = true) {fr : Nat} (h1 : fr + 1 ≤ R.frames) (h2 : 8 + (6 + 11) + 60 * fr ≤ R.locals) : CallW R s args RX9 RX9 209 yX9_readItem cX9_readItem 6 none (wsOf yX9_readItem cX9_readItem 6 none) ({ frames := fr, cells := 0, slots := 0, locals := 60 * fr } : Room) 0 0 1 := cwV 1 hts (gd_all (in_V kw_931 kw_933 kw_17 kw_193 kc_X9_readItem)) rfl rfl rfl (by decide +kernel) ⟨h1, h2⟩
set_option maxHeartbeats 4000000 in
set_option maxRecDepth 100000 in
theorem sc_X9_readItem (l : Launch) (dC : Nat → ClassId) (dI : Nat → Nat → Nat) (cB cI cJ cZ cS cO : ClassId) (b : Nat) (K V : Nat → Nat) (fz : Value) (F : Nat) (cs : CS) (x0 : Nat) (x1 : Nat) (cs9 : CS) (hf : c_X9_readItem F cs x0 x1 = some cs9) : ocV l dC dI cB cI cJ cZ cS cO b K V fz yX9_readItem (wsOf yX9_readItem cX9_readItem 6 none) (304) [.ref (b + x0), .ref (b + x1)] cs cs9 := by
  intro sz
  refine Met.ofW (cc := cX9_readItem) (maxL := 6) (ret := none) (by decide) rfl ?_
  intro p e s m args below meth c s₁ B hml hv
  obtain ⟨rfl, hsz, hP, hK, hD0, hZ⟩ := hv
  have hx := B.exec
  have hb := B.bytes
  have hr := B.returns
  have hts := atoms_spec (ws := (wsOf yX9_readItem cX9_readItem 6 none)) B.pre
  have hown : s.vm.findClass RX9 = some m.cls := findClass_of_methodNamed B.named
  have hlocks := B.notSynchronized
  subst hsz
  have hD := hD0.self (sz := s.heap.size)
  generalize hAe : va_A (cW cB cI cJ cZ cS cO b cs) s.heap.size = A at hD hZ ⊢
  have hA : ∀ q : Nat, s.heap.size ≤ q → A q := fun q h => by rw [← hAe]; exact Or.inr h
  have hS : va_S A s.heap s.heap [] := va_S.rf
  have hl := lv_entry ([.ref (b + x0), .ref (b + x1)]) (n := 6) (Nat.le_of_ble_eq_true rfl)
  rw [lg_entry_eq]
  generalize (lg_sl ([.ref (b + x0), .ref (b + x1)]) ++ List.replicate (6 - (lg_sl ([.ref (b + x0), .ref (b + x1)])).length) Slot.unset).toArray = ls at hl ⊢
  have hl : lv_has ls 6 [(0, .ref (b + x0)), (1, .ref (b + x1))] := hl
  have B_91 : ∀ (cs1 : CS) (u1 : Nat) (u3 : Int32) (u4 : Int64), c_X9_readItem_b91 F cs1 u1 u3 u4 = some cs9 → ∀ (H : Heap) (locs : List Loc) (ls : Array Slot), va_P (dC, dI) vwCl (cW cB cI cJ cZ cS cO b cs1) H → va_D A (cW cB cI cJ cZ cS cO b cs1) → va_S A s.heap H locs → lv_has ls 6 [(1, .ref (b + u1)), (3, .int u3), (4, .long u4)] → W p l e (headSpec (wsOf yX9_readItem cX9_readItem 6 none) ({ frames := 304, cells := 0, slots := 0, locals := 60 * (304) } : Room)).room s m ([.ref (b + x0), .ref (b + x1)] : List Value).toArray below meth c H locs 0 0 (MQ below (va_Qv (fun (_ : Unit) => True) (fun _ t_ => va_P (dC, dI) vwCl (cW cB cI cJ cZ cS cO b cs9) t_.heap ∧ va_D A (cW cB cI cJ cZ cS cO b cs9)) A) ([.ref (b + x0), .ref (b + x1)] : List Value).toArray s 0 0 A) (F0 m 91 ls []) := by
    intro cs1 u1 u3 u4 h H locs ls hP hD hS hl
    unfold c_X9_readItem_b91 at h
    refine lv_aload_n hx hb dX9_readItem_91 rfl (lv_at hl 0 rfl) ?_
    refine lv_iload_n hx hb dX9_readItem_92 rfl (lv_at hl 1 rfl) ?_
    refine lv_lload hx hb dX9_readItem_93 (lv_at hl 2 rfl) ?_
    refine lv_iconst (v := 0) hx hb dX9_readItem_95 (by decide) ?_
    refine lv_iconst (v := 1) hx hb dX9_readItem_96 (by decide) ?_
    replace h := ob h; obtain ⟨w_2, hw_2, h⟩ := h
    replace h := ob h; obtain ⟨cs_1, hv_1, h⟩ := h
    refine ccV (As := [.int u3, .long u4, .int 0, .int 1]) hx hb hml hts hown hK hP hD hS hA hZ (X := 3) (by decide) rfl (ckE_some hw_2) (sc_X2_add l dC dI cB cI cJ cZ cS cO b K V fz F cs1 u1 u3 u4 0 1 cs_1 hv_1) (cw_X9_X2_add hts (fr := 1) (Nat.le_of_ble_eq_true rfl) (Nat.le_of_ble_eq_true rfl)) rfl hl.1 (Nat.le_of_ble_eq_true rfl) ⟨Nat.zero_le _, Nat.zero_le _⟩ dX9_readItem_97 (fun H locs hP hD hS => ?_)
    have e1 := Option.some.inj h
    rw [e1] at hP hD
    exact W.vret hx hb hr (fun t_ ht hW => ⟨⟨(), rfl, trivial, by rw [ht]; exact hP, hD⟩, hS.F ht⟩) hS.2.2 dX9_readItem_100
  have h := hf
  unfold c_X9_readItem at h
  refine lv_aload_n hx hb dX9_readItem_0 rfl (lv_at hl 0 rfl) ?_
  refine lv_aload_n hx hb dX9_readItem_1 rfl (lv_at hl 1 rfl) ?_
  replace h := ob h; obtain ⟨w_4, hw_4, h⟩ := h
  replace h := ob h; obtain ⟨v_3, hv_3, h⟩ := h
  refine ccI (As := []) hx hb hml hts hown hK hP hD hS hA hZ (X := 3) (by decide) rfl (ckE_some hw_4) (sc_X2_isFull l dC dI cB cI cJ cZ cS cO b K V fz F cs x1 v_3 hv_3) (cw_X9_X2_isFull hts (fr := 0) (Nat.le_of_ble_eq_true rfl) (Nat.le_of_ble_eq_true rfl)) rfl hl.1 (Nat.le_of_ble_eq_true rfl) ⟨Nat.zero_le _, Nat.zero_le _⟩ dX9_readItem_2 (fun H locs hP hD hS => ?_)
  refine lv_iconst (v := 1) hx hb dX9_readItem_5 (by decide) ?_
  replace h := ob h; obtain ⟨w_6, hw_6, h⟩ := h
  replace h := ob h; obtain ⟨cs_5, hv_5, h⟩ := h
  refine ccV (As := [.int v_3, .int 1]) hx hb hml hts hown hK hP hD hS hA hZ (X := 10) (by decide) rfl (ckE_some hw_6) (sc_X9_refuseNinth l dC dI cB cI cJ cZ cS cO b K V fz F cs x0 v_3 1 cs_5 hv_5) (cw_X9_X9_refuseNinth hts (fr := 1) (Nat.le_of_ble_eq_true rfl) (Nat.le_of_ble_eq_true rfl)) rfl hl.1 (Nat.le_of_ble_eq_true rfl) ⟨Nat.zero_le _, Nat.zero_le _⟩ dX9_readItem_6 (fun H locs hP hD hS => ?_)
  refine lv_aload_n hx hb dX9_readItem_9 rfl (lv_at hl 0 rfl) ?_
  replace h := ob h; obtain ⟨w_8, hw_8, h⟩ := h
  replace h := ob h; obtain ⟨v_7, hv_7, h⟩ := h
  refine ccI (As := []) hx hb hml hts hown hK hP hD hS hA hZ (X := 10) (by decide) rfl (ckE_some hw_8) (sc_X9_here l dC dI cB cI cJ cZ cS cO b K V fz F cs_5 x0 v_7 hv_7) (cw_X9_X9_here hts (fr := 0) (Nat.le_of_ble_eq_true rfl) (Nat.le_of_ble_eq_true rfl)) rfl hl.1 (Nat.le_of_ble_eq_true rfl) ⟨Nat.zero_le _, Nat.zero_le _⟩ dX9_readItem_10 (fun H locs hP hD hS => ?_)
  refine lv_istore_n (lv' := [(2, .int v_7), (0, .ref (b + x0)), (1, .ref (b + x1))]) hx hb dX9_readItem_13 rfl hl (by decide) rfl (fun ls hl => ?_)
  refine lv_aload_n hx hb dX9_readItem_14 rfl (lv_at hl 1 rfl) ?_
  replace h := ob h; obtain ⟨w_10, hw_10, h⟩ := h
  replace h := ob h; obtain ⟨z_9, hv_9, h⟩ := h
  refine ccI (As := []) hx hb hml hts hown hK hP hD hS hA hZ (X := 10) (by decide) rfl (ckE_some hw_10) (sc_X9_readExpr l dC dI cB cI cJ cZ cS cO b K V fz F 300 cs_5 x0 z_9.1 z_9.2 hv_9) (cw_X9_X9_readExpr hts (fr := 303) (Nat.le_of_ble_eq_true rfl) (Nat.le_of_ble_eq_true rfl)) rfl hl.1 (Nat.le_of_ble_eq_true rfl) ⟨Nat.zero_le _, Nat.zero_le _⟩ dX9_readItem_15 (fun H locs hP hD hS => ?_)
  refine lv_istore_n (lv' := [(3, .int z_9.2), (2, .int v_7), (0, .ref (b + x0)), (1, .ref (b + x1))]) hx hb dX9_readItem_18 rfl hl (by decide) rfl (fun ls hl => ?_)
  refine lv_ldc2 hx hb hown (hts _ (List.mem_cons_of_mem _ kw_1004)) dX9_readItem_19 ?_
  refine lv_lstore (lv' := [(4, .long (-1)), (3, .int z_9.2), (2, .int v_7), (0, .ref (b + x0)), (1, .ref (b + x1))]) hx hb dX9_readItem_22 hl (by decide) rfl (fun ls hl => ?_)
  refine lv_aload_n hx hb dX9_readItem_24 rfl (lv_at hl 3 rfl) ?_
  refine lv_bipush (v := 17) hx hb dX9_readItem_25 (by decide) ?_
  replace h := ob h; obtain ⟨w_12, hw_12, h⟩ := h
  replace h := ob h; obtain ⟨z_11, hv_11, h⟩ := h
  refine ccI (As := [.int 17]) hx hb hml hts hown hK hP hD hS hA hZ (X := 10) (by decide) rfl (ckE_some hw_12) (sc_X9_accept l dC dI cB cI cJ cZ cS cO b K V fz F z_9.1 x0 17 z_11.1 z_11.2 hv_11) (cw_X9_X9_accept hts (fr := 1) (Nat.le_of_ble_eq_true rfl) (Nat.le_of_ble_eq_true rfl)) rfl hl.1 (Nat.le_of_ble_eq_true rfl) ⟨Nat.zero_le _, Nat.zero_le _⟩ dX9_readItem_27 (fun H locs hP hD hS => ?_)
  refine lv_if_eq (tgt := 42) hx hb dX9_readItem_30 (by decide) (fun c_13 => ?_) (fun c_13 => ?_)
  · skip
    replace h := (if_pos c_13).symm.trans h
    refine lv_aload_n hx hb dX9_readItem_42 rfl (lv_at hl 3 rfl) ?_
    replace h := ob h; obtain ⟨v_14, hv_14, h⟩ := h
    refine fg_X9_26 hx hb hts hown hK hP hv_14 dX9_readItem_43 ?_
    refine lv_iload_n hx hb dX9_readItem_46 rfl (lv_at hl 1 rfl) ?_
    replace h := ob h; obtain ⟨i_16, hi_16, h⟩ := h
    subst hi_16
    replace h := ob h; obtain ⟨w_17, hw_17, h⟩ := h
    replace h := ob h; obtain ⟨v_15, hv_15, h⟩ := h
    refine ccI (As := [.int z_9.2]) hx hb hml hts hown hK hP hD hS hA hZ (X := 2) (by decide) rfl (ckE_some hw_17) (sc_X1_has l dC dI cB cI cJ cZ cS cO b K V fz F z_11.1 i_16 z_9.2 v_15 hv_15) (cw_X9_X1_has hts (fr := 0) (Nat.le_of_ble_eq_true rfl) (Nat.le_of_ble_eq_true rfl)) rfl hl.1 (Nat.le_of_ble_eq_true rfl) ⟨Nat.zero_le _, Nat.zero_le _⟩ dX9_readItem_47 (fun H locs hP hD hS => ?_)
    refine lv_if_eq (tgt := 91) hx hb dX9_readItem_50 (by decide) (fun c_18 => ?_) (fun c_18 => ?_)
    · skip
      replace h := (if_pos c_18).symm.trans h
      exact B_91 z_11.1 x1 z_9.2 (-1) h _ _ _ hP hD hS (lv_sub hl [4, 1, 0] rfl)
    · skip
      replace h := (if_neg c_18).symm.trans h
      refine lv_aload_n hx hb dX9_readItem_53 rfl (lv_at hl 3 rfl) ?_
      replace h := ob h; obtain ⟨v_19, hv_19, h⟩ := h
      refine fg_X9_26 hx hb hts hown hK hP hv_19 dX9_readItem_54 ?_
      replace h := ob h; obtain ⟨i_20, hi_20, h⟩ := h
      subst hi_20
      replace h := ob h; obtain ⟨v_21, hv_21, h⟩ := h
      refine fg_X9_229 hx hb hts hown hK hP hv_21 dX9_readItem_57 ?_
      refine lv_iload_n hx hb dX9_readItem_60 rfl (lv_at hl 1 rfl) ?_
      replace h := ob h; obtain ⟨v_22, hv_22, h⟩ := h
      refine ald0 hx hb hK hP rfl hv_22 dX9_readItem_61 ?_
      refine lv_bipush (v := 39) hx hb dX9_readItem_62 (by decide) ?_
      refine lv_icmp_ne (tgt := 91) hx hb dX9_readItem_64 (by decide) (fun c_23 => ?_) (fun c_23 => ?_)
      · skip
        replace h := (if_neg c_23).symm.trans h
        exact B_91 z_11.1 x1 z_9.2 (-1) h _ _ _ hP hD hS (lv_sub hl [4, 1, 0] rfl)
      · skip
        replace h := (if_pos c_23).symm.trans h
        refine lv_aload_n hx hb dX9_readItem_67 rfl (lv_at hl 3 rfl) ?_
        replace h := ob h; obtain ⟨v_24, hv_24, h⟩ := h
        refine fg_X9_26 hx hb hts hown hK hP hv_24 dX9_readItem_68 ?_
        replace h := ob h; obtain ⟨i_25, hi_25, h⟩ := h
        subst hi_25
        replace h := ob h; obtain ⟨v_26, hv_26, h⟩ := h
        refine fg_X9_230 hx hb hts hown hK hP hv_26 dX9_readItem_71 ?_
        refine lv_iload_n hx hb dX9_readItem_74 rfl (lv_at hl 1 rfl) ?_
        replace h := ob h; obtain ⟨v_27, hv_27, h⟩ := h
        refine ald0 hx hb hK hP rfl hv_27 dX9_readItem_75 ?_
        refine lv_iload_n hx hb dX9_readItem_76 rfl (lv_at hl 2 rfl) ?_
        refine lv_icmp_ne (tgt := 91) hx hb dX9_readItem_77 (by decide) (fun c_28 => ?_) (fun c_28 => ?_)
        · skip
          replace h := (if_neg c_28).symm.trans h
          exact B_91 z_11.1 x1 z_9.2 (-1) h _ _ _ hP hD hS (lv_sub hl [4, 1, 0] rfl)
        · skip
          replace h := (if_pos c_28).symm.trans h
          refine lv_aload_n hx hb dX9_readItem_80 rfl (lv_at hl 3 rfl) ?_
          replace h := ob h; obtain ⟨v_29, hv_29, h⟩ := h
          refine fg_X9_26 hx hb hts hown hK hP hv_29 dX9_readItem_81 ?_
          replace h := ob h; obtain ⟨i_30, hi_30, h⟩ := h
          subst hi_30
          replace h := ob h; obtain ⟨v_31, hv_31, h⟩ := h
          refine fg_X9_231 hx hb hts hown hK hP hv_31 dX9_readItem_84 ?_
          refine lv_iload_n hx hb dX9_readItem_87 rfl (lv_at hl 1 rfl) ?_
          replace h := ob h; obtain ⟨v_32, hv_32, h⟩ := h
          refine ald2 hx hb hK hP rfl hv_32 dX9_readItem_88 ?_
          refine lv_lstore (lv' := [(4, .long v_32), (3, .int z_9.2), (2, .int v_7), (0, .ref (b + x0)), (1, .ref (b + x1))]) hx hb dX9_readItem_89 hl (by decide) rfl (fun ls hl => ?_)
          exact B_91 z_11.1 x1 z_9.2 v_32 h _ _ _ hP hD hS (lv_sub hl [4, 1, 0] rfl)
  · skip
    replace h := (if_neg c_13).symm.trans h
    refine lv_aload_n hx hb dX9_readItem_33 rfl (lv_at hl 3 rfl) ?_
    replace h := ob h; obtain ⟨w_34, hw_34, h⟩ := h
    replace h := ob h; obtain ⟨z_33, hv_33, h⟩ := h
    refine ccL (As := []) hx hb hml hts hown hK hP hD hS hA hZ (X := 10) (by decide) rfl (ckE_some hw_34) (sc_X9_readName l dC dI cB cI cJ cZ cS cO b K V fz F z_11.1 x0 z_33.1 z_33.2 hv_33) (cw_X9_X9_readName hts (fr := 2) (Nat.le_of_ble_eq_true rfl) (Nat.le_of_ble_eq_true rfl)) rfl hl.1 (Nat.le_of_ble_eq_true rfl) ⟨Nat.zero_le _, Nat.zero_le _⟩ dX9_readItem_34 (fun H locs hP hD hS => ?_)
    refine lv_lstore (lv' := [(4, .long z_33.2), (3, .int z_9.2), (2, .int v_7), (0, .ref (b + x0)), (1, .ref (b + x1))]) hx hb dX9_readItem_37 hl (by decide) rfl (fun ls hl => ?_)
    refine lv_goto (tgt := 91) hx hb dX9_readItem_39 (by decide) ?_
    exact B_91 z_33.1 x1 z_9.2 z_33.2 h _ _ _ hP hD hS (lv_sub hl [4, 1, 0] rfl)
theorem dX9_readGroups_0 : decode cX9_readGroups 0 = .ok (.aload_n 1, 1) := by decide +kernel
theorem dX9_readGroups_1 : decode cX9_readGroups 1 = .ok (.iconst 1, 1) := by decide +kernel
theorem dX9_readGroups_2 : decode cX9_readGroups 2 = .ok (.putfield 232, 3) := by decide +kernel
theorem dX9_readGroups_5 : decode cX9_readGroups 5 = .ok (.aload_n 1, 1) := by decide +kernel
theorem dX9_readGroups_6 : decode cX9_readGroups 6 = .ok (.aload_n 0, 1) := by decide +kernel
theorem dX9_readGroups_7 : decode cX9_readGroups 7 = .ok (.invokevirtual 118, 3) := by decide +kernel
theorem dX9_readGroups_10 : decode cX9_readGroups 10 = .ok (.putfield 235, 3) := by decide +kernel
theorem dX9_readGroups_13 : decode cX9_readGroups 13 = .ok (.aload_n 0, 1) := by decide +kernel
theorem dX9_readGroups_14 : decode cX9_readGroups 14 = .ok (.bipush 7, 2) := by decide +kernel
theorem dX9_readGroups_16 : decode cX9_readGroups 16 = .ok (.invokevirtual 60, 3) := by decide +kernel
theorem dX9_readGroups_19 : decode cX9_readGroups 19 = .ok (.aload_n 0, 1) := by decide +kernel
theorem dX9_readGroups_20 : decode cX9_readGroups 20 = .ok (.bipush 8, 2) := by decide +kernel
theorem dX9_readGroups_22 : decode cX9_readGroups 22 = .ok (.invokevirtual 60, 3) := by decide +kernel
theorem dX9_readGroups_25 : decode cX9_readGroups 25 = .ok (.iconst 1, 1) := by decide +kernel
theorem dX9_readGroups_26 : decode cX9_readGroups 26 = .ok (.istore_n 2, 1) := by decide +kernel
theorem dX9_readGroups_27 : decode cX9_readGroups 27 = .ok (.iconst 0, 1) := by decide +kernel
theorem dX9_readGroups_28 : decode cX9_readGroups 28 = .ok (.istore_n 3, 1) := by decide +kernel
theorem dX9_readGroups_29 : decode cX9_readGroups 29 = .ok (.iload_n 3, 1) := by decide +kernel
theorem dX9_readGroups_30 : decode cX9_readGroups 30 = .ok (.sipush 2000, 3) := by decide +kernel
theorem dX9_readGroups_33 : decode cX9_readGroups 33 = .ok (.if_icmp .ge 66, 3) := by decide +kernel
theorem dX9_readGroups_36 : decode cX9_readGroups 36 = .ok (.iload_n 2, 1) := by decide +kernel
theorem dX9_readGroups_37 : decode cX9_readGroups 37 = .ok (.ifCond .eq 62, 3) := by decide +kernel
theorem dX9_readGroups_40 : decode cX9_readGroups 40 = .ok (.aload_n 0, 1) := by decide +kernel
theorem dX9_readGroups_41 : decode cX9_readGroups 41 = .ok (.aload_n 1, 1) := by decide +kernel
theorem dX9_readGroups_42 : decode cX9_readGroups 42 = .ok (.getfield 238, 3) := by decide +kernel
theorem dX9_readGroups_45 : decode cX9_readGroups 45 = .ok (.invokevirtual 166, 3) := by decide +kernel
theorem dX9_readGroups_48 : decode cX9_readGroups 48 = .ok (.iconst 1, 1) := by decide +kernel
theorem dX9_readGroups_49 : decode cX9_readGroups 49 = .ok (.invokevirtual 170, 3) := by decide +kernel
theorem dX9_readGroups_52 : decode cX9_readGroups 52 = .ok (.aload_n 0, 1) := by decide +kernel
theorem dX9_readGroups_53 : decode cX9_readGroups 53 = .ok (.invokevirtual 174, 3) := by decide +kernel
theorem dX9_readGroups_56 : decode cX9_readGroups 56 = .ok (.istore 4, 2) := by decide +kernel
theorem dX9_readGroups_58 : decode cX9_readGroups 58 = .ok (.aload_n 0, 1) := by decide +kernel
theorem dX9_readGroups_59 : decode cX9_readGroups 59 = .ok (.bipush 17, 2) := by decide +kernel
theorem dX9_readGroups_61 : decode cX9_readGroups 61 = .ok (.invokevirtual 60, 3) := by decide +kernel
theorem dX9_readGroups_64 : decode cX9_readGroups 64 = .ok (.aload_n 0, 1) := by decide +kernel
theorem dX9_readGroups_65 : decode cX9_readGroups 65 = .ok (.invokevirtual 118, 3) := by decide +kernel
theorem dX9_readGroups_68 : decode cX9_readGroups 68 = .ok (.istore 5, 2) := by decide +kernel
theorem dX9_readGroups_70 : decode cX9_readGroups 70 = .ok (.aload_n 1, 1) := by decide +kernel
theorem dX9_readGroups_71 : decode cX9_readGroups 71 = .ok (.getfield 238, 3) := by decide +kernel
theorem dX9_readGroups_74 : decode cX9_readGroups 74 = .ok (.iload 4, 2) := by decide +kernel
theorem dX9_readGroups_76 : decode cX9_readGroups 76 = .ok (.aload_n 0, 1) := by decide +kernel
theorem dX9_readGroups_77 : decode cX9_readGroups 77 = .ok (.invokevirtual 225, 3) := by decide +kernel
theorem dX9_readGroups_80 : decode cX9_readGroups 80 = .ok (.iload 5, 2) := by decide +kernel
theorem dX9_readGroups_82 : decode cX9_readGroups 82 = .ok (.iconst 1, 1) := by decide +kernel
theorem dX9_readGroups_83 : decode cX9_readGroups 83 = .ok (.invokevirtual 179, 3) := by decide +kernel
theorem dX9_readGroups_86 : decode cX9_readGroups 86 = .ok (.aload_n 0, 1) := by decide +kernel
theorem dX9_readGroups_87 : decode cX9_readGroups 87 = .ok (.bipush 43, 2) := by decide +kernel
theorem dX9_readGroups_89 : decode cX9_readGroups 89 = .ok (.invokevirtual 48, 3) := by decide +kernel
theorem dX9_readGroups_92 : decode cX9_readGroups 92 = .ok (.istore_n 2, 1) := by decide +kernel
theorem dX9_readGroups_93 : decode cX9_readGroups 93 = .ok (.iinc 3 1, 3) := by decide +kernel
theorem dX9_readGroups_96 : decode cX9_readGroups 96 = .ok (.goto (-67), 3) := by decide +kernel
theorem dX9_readGroups_99 : decode cX9_readGroups 99 = .ok (.return_, 1) := by decide +kernel
def c_X9_readGroups_b99 (F : Nat) (cs1 : CS) : Option CS := some cs1
def c_X9_readGroups_L29 (F : Nat) : Nat → CS → Nat → Nat → Int32 → Int32 → Option CS
  | 0, _, _, _, _, _ => none
  | lf_29 + 1, cs1, u0, u1, u2, u3 => if 2000 ≤ u3 then (c_X9_readGroups_b99 F cs1) else (if u2 = 0 then (c_X9_readGroups_b99 F cs1) else (Option.bind (gR cs1 6 200 u1) fun v_3 => Option.bind (v_3) fun i_5 => Option.bind (ckE cs1 3 i_5) fun _ => Option.bind (c_X2_isFull F cs1 i_5) fun v_4 => Option.bind (ckE cs1 10 u0) fun _ => Option.bind (c_X9_refuseNinth F cs1 u0 v_4 1) fun cs_7 => Option.bind (ckE cs_7 10 u0) fun _ => Option.bind (c_X9_readExpr F 300 cs_7 u0) fun z_9 => Option.bind (ckE z_9.1 10 u0) fun _ => Option.bind (c_X9_expect F z_9.1 u0 17) fun cs_11 => Option.bind (ckE cs_11 10 u0) fun _ => Option.bind (c_X9_here F cs_11 u0) fun v_13 => Option.bind (gR cs_11 6 200 u1) fun v_15 => Option.bind (ckE cs_11 10 u0) fun _ => Option.bind (c_X9_readName F cs_11 u0) fun z_16 => Option.bind (v_15) fun i_19 => Option.bind (ckE z_16.1 3 i_19) fun _ => Option.bind (c_X2_add F z_16.1 i_19 z_9.2 z_16.2 v_13 1) fun cs_18 => Option.bind (ckE cs_18 10 u0) fun _ => Option.bind (c_X9_accept F cs_18 u0 43) fun z_21 => (c_X9_readGroups_L29 F lf_29) z_21.1 u0 u1 z_21.2 (u3 + 1)))
def c_X9_readGroups (F : Nat) (cs : CS) (x0 : Nat) (x1 : Nat) : Option CS := Option.bind (pI cs 6 198 x1 1) fun cs_23 => Option.bind (ckE cs_23 10 x0) fun _ => Option.bind (c_X9_here F cs_23 x0) fun v_24 => Option.bind (pI cs_23 6 199 x1 v_24) fun cs_26 => Option.bind (ckE cs_26 10 x0) fun _ => Option.bind (c_X9_expect F cs_26 x0 7) fun cs_27 => Option.bind (ckE cs_27 10 x0) fun _ => Option.bind (c_X9_expect F cs_27 x0 8) fun cs_29 => c_X9_readGroups_L29 F F cs_29 x0 x1 1 0
theorem cw_X9_X9_readGroups {R : Room} {s : State} {args : Array Value} {y0 : MethodName} {c0 : ByteArray} {n0 : Nat} {r0 : Option FieldType} (hts : ∀ w ∈ wsOf y0 c0 n0 r0, w.before args s = true) {fr : Nat} (h1 : fr + 1 ≤ R.frames) (h2 : 8 + (6 + 11) + 60 * fr ≤ R.locals) : CallW R s args RX9 RX9 219 yX9_readGroups cX9_readGroups 6 none (wsOf yX9_readGroups cX9_readGroups 6 none) ({ frames := fr, cells := 0, slots := 0, locals := 60 * fr } : Room) 0 0 1 := cwV 1 hts (gd_all (in_V kw_1127 kw_1129 kw_43 kw_193 kc_X9_readGroups)) rfl rfl rfl (by decide +kernel) ⟨h1, h2⟩
set_option maxHeartbeats 4000000 in
set_option maxRecDepth 100000 in
theorem sc_X9_readGroups (l : Launch) (dC : Nat → ClassId) (dI : Nat → Nat → Nat) (cB cI cJ cZ cS cO : ClassId) (b : Nat) (K V : Nat → Nat) (fz : Value) (F : Nat) (cs : CS) (x0 : Nat) (x1 : Nat) (cs9 : CS) (hf : c_X9_readGroups F cs x0 x1 = some cs9) : ocV l dC dI cB cI cJ cZ cS cO b K V fz yX9_readGroups (wsOf yX9_readGroups cX9_readGroups 6 none) (304) [.ref (b + x0), .ref (b + x1)] cs cs9 := by
  intro sz
  refine Met.ofW (cc := cX9_readGroups) (maxL := 6) (ret := none) (by decide) rfl ?_
  intro p e s m args below meth c s₁ B hml hv
  obtain ⟨rfl, hsz, hP, hK, hD0, hZ⟩ := hv
  have hx := B.exec
  have hb := B.bytes
  have hr := B.returns
  have hts := atoms_spec (ws := (wsOf yX9_readGroups cX9_readGroups 6 none)) B.pre
  have hown : s.vm.findClass RX9 = some m.cls := findClass_of_methodNamed B.named
  have hlocks := B.notSynchronized
  subst hsz
  have hD := hD0.self (sz := s.heap.size)
  generalize hAe : va_A (cW cB cI cJ cZ cS cO b cs) s.heap.size = A at hD hZ ⊢
  have hA : ∀ q : Nat, s.heap.size ≤ q → A q := fun q h => by rw [← hAe]; exact Or.inr h
  have hS : va_S A s.heap s.heap [] := va_S.rf
  have hl := lv_entry ([.ref (b + x0), .ref (b + x1)]) (n := 6) (Nat.le_of_ble_eq_true rfl)
  rw [lg_entry_eq]
  generalize (lg_sl ([.ref (b + x0), .ref (b + x1)]) ++ List.replicate (6 - (lg_sl ([.ref (b + x0), .ref (b + x1)])).length) Slot.unset).toArray = ls at hl ⊢
  have hl : lv_has ls 6 [(0, .ref (b + x0)), (1, .ref (b + x1))] := hl
  have B_99 : ∀ (cs1 : CS) , c_X9_readGroups_b99 F cs1 = some cs9 → ∀ (H : Heap) (locs : List Loc) (ls : Array Slot), va_P (dC, dI) vwCl (cW cB cI cJ cZ cS cO b cs1) H → va_D A (cW cB cI cJ cZ cS cO b cs1) → va_S A s.heap H locs → lv_has ls 6 [] → W p l e (headSpec (wsOf yX9_readGroups cX9_readGroups 6 none) ({ frames := 304, cells := 0, slots := 0, locals := 60 * (304) } : Room)).room s m ([.ref (b + x0), .ref (b + x1)] : List Value).toArray below meth c H locs 0 0 (MQ below (va_Qv (fun (_ : Unit) => True) (fun _ t_ => va_P (dC, dI) vwCl (cW cB cI cJ cZ cS cO b cs9) t_.heap ∧ va_D A (cW cB cI cJ cZ cS cO b cs9)) A) ([.ref (b + x0), .ref (b + x1)] : List Value).toArray s 0 0 A) (F0 m 99 ls []) := by
    intro cs1  h H locs ls hP hD hS hl
    unfold c_X9_readGroups_b99 at h
    have e1 := Option.some.inj h
    rw [e1] at hP hD
    exact W.vret hx hb hr (fun t_ ht hW => ⟨⟨(), rfl, trivial, by rw [ht]; exact hP, hD⟩, hS.F ht⟩) hS.2.2 dX9_readGroups_99
  have L_29 : ∀ (lf_29 : Nat), ∀ (cs1 : CS) (u0 : Nat) (u1 : Nat) (u2 : Int32) (u3 : Int32), c_X9_readGroups_L29 F lf_29 cs1 u0 u1 u2 u3 = some cs9 → ∀ (H : Heap) (locs : List Loc) (ls : Array Slot), va_P (dC, dI) vwCl (cW cB cI cJ cZ cS cO b cs1) H → va_D A (cW cB cI cJ cZ cS cO b cs1) → va_S A s.heap H locs → lv_has ls 6 [(0, .ref (b + u0)), (1, .ref (b + u1)), (2, .int u2), (3, .int u3)] → W p l e (headSpec (wsOf yX9_readGroups cX9_readGroups 6 none) ({ frames := 304, cells := 0, slots := 0, locals := 60 * (304) } : Room)).room s m ([.ref (b + x0), .ref (b + x1)] : List Value).toArray below meth c H locs 0 0 (MQ below (va_Qv (fun (_ : Unit) => True) (fun _ t_ => va_P (dC, dI) vwCl (cW cB cI cJ cZ cS cO b cs9) t_.heap ∧ va_D A (cW cB cI cJ cZ cS cO b cs9)) A) ([.ref (b + x0), .ref (b + x1)] : List Value).toArray s 0 0 A) (F0 m 29 ls []) := by
    intro lf_29
    induction lf_29 with
    | zero => intro cs1 u0 u1 u2 u3 h; cases (show (none : Option CS) = _ from h)
    | succ lf_29 ih_29 =>
      intro cs1 u0 u1 u2 u3 h H locs ls hP hD hS hl
      rw [c_X9_readGroups_L29] at h
      refine lv_iload_n hx hb dX9_readGroups_29 rfl (lv_at hl 3 rfl) ?_
      refine lv_sipush (v := 2000) hx hb dX9_readGroups_30 (by decide) ?_
      refine lv_icmp_ge (tgt := 99) hx hb dX9_readGroups_33 (by decide) (fun c_1 => ?_) (fun c_1 => ?_)
      · skip
        replace h := (if_pos c_1).symm.trans h
        exact B_99 cs1 h _ _ _ hP hD hS (lv_sub hl [] rfl)
      · skip
        replace h := (if_neg c_1).symm.trans h
        refine lv_iload_n hx hb dX9_readGroups_36 rfl (lv_at hl 2 rfl) ?_
        refine lv_if_eq (tgt := 99) hx hb dX9_readGroups_37 (by decide) (fun c_2 => ?_) (fun c_2 => ?_)
        · skip
          replace h := (if_pos c_2).symm.trans h
          exact B_99 cs1 h _ _ _ hP hD hS (lv_sub hl [] rfl)
        · skip
          replace h := (if_neg c_2).symm.trans h
          refine lv_aload_n hx hb dX9_readGroups_40 rfl (lv_at hl 0 rfl) ?_
          refine lv_aload_n hx hb dX9_readGroups_41 rfl (lv_at hl 1 rfl) ?_
          replace h := ob h; obtain ⟨v_3, hv_3, h⟩ := h
          refine fg_X9_238 hx hb hts hown hK hP hv_3 dX9_readGroups_42 ?_
          replace h := ob h; obtain ⟨i_5, hi_5, h⟩ := h
          subst hi_5
          replace h := ob h; obtain ⟨w_6, hw_6, h⟩ := h
          replace h := ob h; obtain ⟨v_4, hv_4, h⟩ := h
          refine ccI (As := []) hx hb hml hts hown hK hP hD hS hA hZ (X := 3) (by decide) rfl (ckE_some hw_6) (sc_X2_isFull l dC dI cB cI cJ cZ cS cO b K V fz F cs1 i_5 v_4 hv_4) (cw_X9_X2_isFull hts (fr := 0) (Nat.le_of_ble_eq_true rfl) (Nat.le_of_ble_eq_true rfl)) rfl hl.1 (Nat.le_of_ble_eq_true rfl) ⟨Nat.zero_le _, Nat.zero_le _⟩ dX9_readGroups_45 (fun H locs hP hD hS => ?_)
          refine lv_iconst (v := 1) hx hb dX9_readGroups_48 (by decide) ?_
          replace h := ob h; obtain ⟨w_8, hw_8, h⟩ := h
          replace h := ob h; obtain ⟨cs_7, hv_7, h⟩ := h
          refine ccV (As := [.int v_4, .int 1]) hx hb hml hts hown hK hP hD hS hA hZ (X := 10) (by decide) rfl (ckE_some hw_8) (sc_X9_refuseNinth l dC dI cB cI cJ cZ cS cO b K V fz F cs1 u0 v_4 1 cs_7 hv_7) (cw_X9_X9_refuseNinth hts (fr := 1) (Nat.le_of_ble_eq_true rfl) (Nat.le_of_ble_eq_true rfl)) rfl hl.1 (Nat.le_of_ble_eq_true rfl) ⟨Nat.zero_le _, Nat.zero_le _⟩ dX9_readGroups_49 (fun H locs hP hD hS => ?_)
          refine lv_aload_n hx hb dX9_readGroups_52 rfl (lv_at hl 0 rfl) ?_
          replace h := ob h; obtain ⟨w_10, hw_10, h⟩ := h
          replace h := ob h; obtain ⟨z_9, hv_9, h⟩ := h
          refine ccI (As := []) hx hb hml hts hown hK hP hD hS hA hZ (X := 10) (by decide) rfl (ckE_some hw_10) (sc_X9_readExpr l dC dI cB cI cJ cZ cS cO b K V fz F 300 cs_7 u0 z_9.1 z_9.2 hv_9) (cw_X9_X9_readExpr hts (fr := 303) (Nat.le_of_ble_eq_true rfl) (Nat.le_of_ble_eq_true rfl)) rfl hl.1 (Nat.le_of_ble_eq_true rfl) ⟨Nat.zero_le _, Nat.zero_le _⟩ dX9_readGroups_53 (fun H locs hP hD hS => ?_)
          refine lv_istore (lv' := [(4, .int z_9.2), (0, .ref (b + u0)), (1, .ref (b + u1)), (2, .int u2), (3, .int u3)]) hx hb dX9_readGroups_56 hl (by decide) rfl (fun ls hl => ?_)
          refine lv_aload_n hx hb dX9_readGroups_58 rfl (lv_at hl 1 rfl) ?_
          refine lv_bipush (v := 17) hx hb dX9_readGroups_59 (by decide) ?_
          replace h := ob h; obtain ⟨w_12, hw_12, h⟩ := h
          replace h := ob h; obtain ⟨cs_11, hv_11, h⟩ := h
          refine ccV (As := [.int 17]) hx hb hml hts hown hK hP hD hS hA hZ (X := 10) (by decide) rfl (ckE_some hw_12) (sc_X9_expect l dC dI cB cI cJ cZ cS cO b K V fz F z_9.1 u0 17 cs_11 hv_11) (cw_X9_X9_expect hts (fr := 1) (Nat.le_of_ble_eq_true rfl) (Nat.le_of_ble_eq_true rfl)) rfl hl.1 (Nat.le_of_ble_eq_true rfl) ⟨Nat.zero_le _, Nat.zero_le _⟩ dX9_readGroups_61 (fun H locs hP hD hS => ?_)
          refine lv_aload_n hx hb dX9_readGroups_64 rfl (lv_at hl 1 rfl) ?_
          replace h := ob h; obtain ⟨w_14, hw_14, h⟩ := h
          replace h := ob h; obtain ⟨v_13, hv_13, h⟩ := h
          refine ccI (As := []) hx hb hml hts hown hK hP hD hS hA hZ (X := 10) (by decide) rfl (ckE_some hw_14) (sc_X9_here l dC dI cB cI cJ cZ cS cO b K V fz F cs_11 u0 v_13 hv_13) (cw_X9_X9_here hts (fr := 0) (Nat.le_of_ble_eq_true rfl) (Nat.le_of_ble_eq_true rfl)) rfl hl.1 (Nat.le_of_ble_eq_true rfl) ⟨Nat.zero_le _, Nat.zero_le _⟩ dX9_readGroups_65 (fun H locs hP hD hS => ?_)
          refine lv_istore (lv' := [(5, .int v_13), (4, .int z_9.2), (0, .ref (b + u0)), (1, .ref (b + u1)), (2, .int u2), (3, .int u3)]) hx hb dX9_readGroups_68 hl (by decide) rfl (fun ls hl => ?_)
          refine lv_aload_n hx hb dX9_readGroups_70 rfl (lv_at hl 3 rfl) ?_
          replace h := ob h; obtain ⟨v_15, hv_15, h⟩ := h
          refine fg_X9_238 hx hb hts hown hK hP hv_15 dX9_readGroups_71 ?_
          refine lv_iload hx hb dX9_readGroups_74 (lv_at hl 1 rfl) ?_
          refine lv_aload_n hx hb dX9_readGroups_76 rfl (lv_at hl 2 rfl) ?_
          replace h := ob h; obtain ⟨w_17, hw_17, h⟩ := h
          replace h := ob h; obtain ⟨z_16, hv_16, h⟩ := h
          refine ccL (As := []) hx hb hml hts hown hK hP hD hS hA hZ (X := 10) (by decide) rfl (ckE_some hw_17) (sc_X9_readName l dC dI cB cI cJ cZ cS cO b K V fz F cs_11 u0 z_16.1 z_16.2 hv_16) (cw_X9_X9_readName hts (fr := 2) (Nat.le_of_ble_eq_true rfl) (Nat.le_of_ble_eq_true rfl)) rfl hl.1 (by simp only [List.map, List.sum_cons, List.sum_nil, rv_cat]; exact Nat.le_of_ble_eq_true rfl) ⟨Nat.zero_le _, Nat.zero_le _⟩ dX9_readGroups_77 (fun H locs hP hD hS => ?_)
          refine lv_iload hx hb dX9_readGroups_80 (lv_at hl 0 rfl) ?_
          refine lv_iconst (v := 1) hx hb dX9_readGroups_82 (by decide) ?_
          replace h := ob h; obtain ⟨i_19, hi_19, h⟩ := h
          subst hi_19
          replace h := ob h; obtain ⟨w_20, hw_20, h⟩ := h
          replace h := ob h; obtain ⟨cs_18, hv_18, h⟩ := h
          refine ccV (As := [.int z_9.2, .long z_16.2, .int v_13, .int 1]) hx hb hml hts hown hK hP hD hS hA hZ (X := 3) (by decide) rfl (ckE_some hw_20) (sc_X2_add l dC dI cB cI cJ cZ cS cO b K V fz F z_16.1 i_19 z_9.2 z_16.2 v_13 1 cs_18 hv_18) (cw_X9_X2_add hts (fr := 1) (Nat.le_of_ble_eq_true rfl) (Nat.le_of_ble_eq_true rfl)) rfl hl.1 (Nat.le_of_ble_eq_true rfl) ⟨Nat.zero_le _, Nat.zero_le _⟩ dX9_readGroups_83 (fun H locs hP hD hS => ?_)
          refine lv_aload_n hx hb dX9_readGroups_86 rfl (lv_at hl 2 rfl) ?_
          refine lv_bipush (v := 43) hx hb dX9_readGroups_87 (by decide) ?_
          replace h := ob h; obtain ⟨w_22, hw_22, h⟩ := h
          replace h := ob h; obtain ⟨z_21, hv_21, h⟩ := h
          refine ccI (As := [.int 43]) hx hb hml hts hown hK hP hD hS hA hZ (X := 10) (by decide) rfl (ckE_some hw_22) (sc_X9_accept l dC dI cB cI cJ cZ cS cO b K V fz F cs_18 u0 43 z_21.1 z_21.2 hv_21) (cw_X9_X9_accept hts (fr := 1) (Nat.le_of_ble_eq_true rfl) (Nat.le_of_ble_eq_true rfl)) rfl hl.1 (Nat.le_of_ble_eq_true rfl) ⟨Nat.zero_le _, Nat.zero_le _⟩ dX9_readGroups_89 (fun H locs hP hD hS => ?_)
          refine lv_istore_n (lv' := [(2, .int z_21.2), (5, .int v_13), (4, .int z_9.2), (0, .ref (b + u0)), (1, .ref (b + u1)), (3, .int u3)]) hx hb dX9_readGroups_92 rfl hl (by decide) rfl (fun ls hl => ?_)
          refine lv_iinc (v := u3 + 1) (lv' := [(3, .int (u3 + 1)), (2, .int z_21.2), (5, .int v_13), (4, .int z_9.2), (0, .ref (b + u0)), (1, .ref (b + u1))]) hx hb dX9_readGroups_93 hl (k := 5) rfl rfl (by decide) rfl (fun ls hl => ?_)
          refine lv_goto (tgt := 29) hx hb dX9_readGroups_96 (by decide) ?_
          exact ih_29 z_21.1 u0 u1 z_21.2 (u3 + 1) h _ _ _ hP hD hS (lv_sub hl [4, 5, 1, 0] rfl)
  have h := hf
  unfold c_X9_readGroups at h
  refine lv_aload_n hx hb dX9_readGroups_0 rfl (lv_at hl 1 rfl) ?_
  refine lv_iconst (v := 1) hx hb dX9_readGroups_1 (by decide) ?_
  replace h := ob h; obtain ⟨cs_23, hv_23, h⟩ := h
  refine fp_X9_232 hx hb hts hown hK hP hD hS (Or.inr rfl) hv_23 dX9_readGroups_2 (fun H locs hP hD hS => ?_)
  refine lv_aload_n hx hb dX9_readGroups_5 rfl (lv_at hl 1 rfl) ?_
  refine lv_aload_n hx hb dX9_readGroups_6 rfl (lv_at hl 0 rfl) ?_
  replace h := ob h; obtain ⟨w_25, hw_25, h⟩ := h
  replace h := ob h; obtain ⟨v_24, hv_24, h⟩ := h
  refine ccI (As := []) hx hb hml hts hown hK hP hD hS hA hZ (X := 10) (by decide) rfl (ckE_some hw_25) (sc_X9_here l dC dI cB cI cJ cZ cS cO b K V fz F cs_23 x0 v_24 hv_24) (cw_X9_X9_here hts (fr := 0) (Nat.le_of_ble_eq_true rfl) (Nat.le_of_ble_eq_true rfl)) rfl hl.1 (Nat.le_of_ble_eq_true rfl) ⟨Nat.zero_le _, Nat.zero_le _⟩ dX9_readGroups_7 (fun H locs hP hD hS => ?_)
  replace h := ob h; obtain ⟨cs_26, hv_26, h⟩ := h
  refine fp_X9_235 hx hb hts hown hK hP hD hS hv_26 dX9_readGroups_10 (fun H locs hP hD hS => ?_)
  refine lv_aload_n hx hb dX9_readGroups_13 rfl (lv_at hl 0 rfl) ?_
  refine lv_bipush (v := 7) hx hb dX9_readGroups_14 (by decide) ?_
  replace h := ob h; obtain ⟨w_28, hw_28, h⟩ := h
  replace h := ob h; obtain ⟨cs_27, hv_27, h⟩ := h
  refine ccV (As := [.int 7]) hx hb hml hts hown hK hP hD hS hA hZ (X := 10) (by decide) rfl (ckE_some hw_28) (sc_X9_expect l dC dI cB cI cJ cZ cS cO b K V fz F cs_26 x0 7 cs_27 hv_27) (cw_X9_X9_expect hts (fr := 1) (Nat.le_of_ble_eq_true rfl) (Nat.le_of_ble_eq_true rfl)) rfl hl.1 (Nat.le_of_ble_eq_true rfl) ⟨Nat.zero_le _, Nat.zero_le _⟩ dX9_readGroups_16 (fun H locs hP hD hS => ?_)
  refine lv_aload_n hx hb dX9_readGroups_19 rfl (lv_at hl 0 rfl) ?_
  refine lv_bipush (v := 8) hx hb dX9_readGroups_20 (by decide) ?_
  replace h := ob h; obtain ⟨w_30, hw_30, h⟩ := h
  replace h := ob h; obtain ⟨cs_29, hv_29, h⟩ := h
  refine ccV (As := [.int 8]) hx hb hml hts hown hK hP hD hS hA hZ (X := 10) (by decide) rfl (ckE_some hw_30) (sc_X9_expect l dC dI cB cI cJ cZ cS cO b K V fz F cs_27 x0 8 cs_29 hv_29) (cw_X9_X9_expect hts (fr := 1) (Nat.le_of_ble_eq_true rfl) (Nat.le_of_ble_eq_true rfl)) rfl hl.1 (Nat.le_of_ble_eq_true rfl) ⟨Nat.zero_le _, Nat.zero_le _⟩ dX9_readGroups_22 (fun H locs hP hD hS => ?_)
  refine lv_iconst (v := 1) hx hb dX9_readGroups_25 (by decide) ?_
  refine lv_istore_n (lv' := [(2, .int 1), (0, .ref (b + x0)), (1, .ref (b + x1))]) hx hb dX9_readGroups_26 rfl hl (by decide) rfl (fun ls hl => ?_)
  refine lv_iconst (v := 0) hx hb dX9_readGroups_27 (by decide) ?_
  refine lv_istore_n (lv' := [(3, .int 0), (2, .int 1), (0, .ref (b + x0)), (1, .ref (b + x1))]) hx hb dX9_readGroups_28 rfl hl (by decide) rfl (fun ls hl => ?_)
  exact L_29 F cs_29 x0 x1 1 0 h _ _ _ hP hD hS (lv_sub hl [2, 3, 1, 0] rfl)
