/-! the reference, mirrored: expr, andExpr, notExpr, test, sum, part, sign, one, aggregate -/
abbrev TG_expr : Type := (RS → Option (RS × Int32)) × (RS → Option (RS × Int32)) × (RS → Option (RS × Int32)) × (RS → Option (RS × Int32)) × (RS → Option (RS × Int32)) × (RS → Option (RS × Int32)) × (RS → Option (RS × Int32)) × (RS → Option (RS × Int32)) × (RS → Int32 → Option (RS × Int32))
theorem dX12_expr_0 : decode cX12_expr 0 = .ok (.aload_n 0, 1) := by decide +kernel
theorem dX12_expr_1 : decode cX12_expr 1 = .ok (.invokevirtual 381, 3) := by decide +kernel
theorem dX12_expr_4 : decode cX12_expr 4 = .ok (.istore_n 1, 1) := by decide +kernel
theorem dX12_expr_5 : decode cX12_expr 5 = .ok (.aload_n 0, 1) := by decide +kernel
theorem dX12_expr_6 : decode cX12_expr 6 = .ok (.getfield 384, 3) := by decide +kernel
theorem dX12_expr_9 : decode cX12_expr 9 = .ok (.istore_n 2, 1) := by decide +kernel
theorem dX12_expr_10 : decode cX12_expr 10 = .ok (.aload_n 0, 1) := by decide +kernel
theorem dX12_expr_11 : decode cX12_expr 11 = .ok (.getfield 292, 3) := by decide +kernel
theorem dX12_expr_14 : decode cX12_expr 14 = .ok (.ifCond .eq 55, 3) := by decide +kernel
theorem dX12_expr_17 : decode cX12_expr 17 = .ok (.aload_n 0, 1) := by decide +kernel
theorem dX12_expr_18 : decode cX12_expr 18 = .ok (.ldc_w 387, 3) := by decide +kernel
theorem dX12_expr_21 : decode cX12_expr 21 = .ok (.invokevirtual 322, 3) := by decide +kernel
theorem dX12_expr_24 : decode cX12_expr 24 = .ok (.ifCond .eq 45, 3) := by decide +kernel
theorem dX12_expr_27 : decode cX12_expr 27 = .ok (.aload_n 0, 1) := by decide +kernel
theorem dX12_expr_28 : decode cX12_expr 28 = .ok (.getfield 43, 3) := by decide +kernel
theorem dX12_expr_31 : decode cX12_expr 31 = .ok (.aload_n 0, 1) := by decide +kernel
theorem dX12_expr_32 : decode cX12_expr 32 = .ok (.getfield 302, 3) := by decide +kernel
theorem dX12_expr_35 : decode cX12_expr 35 = .ok (.iaload, 1) := by decide +kernel
theorem dX12_expr_36 : decode cX12_expr 36 = .ok (.istore_n 3, 1) := by decide +kernel
theorem dX12_expr_37 : decode cX12_expr 37 = .ok (.aload_n 0, 1) := by decide +kernel
theorem dX12_expr_38 : decode cX12_expr 38 = .ok (.dup, 1) := by decide +kernel
theorem dX12_expr_39 : decode cX12_expr 39 = .ok (.getfield 302, 3) := by decide +kernel
theorem dX12_expr_42 : decode cX12_expr 42 = .ok (.iconst 1, 1) := by decide +kernel
theorem dX12_expr_43 : decode cX12_expr 43 = .ok (.iadd, 1) := by decide +kernel
theorem dX12_expr_44 : decode cX12_expr 44 = .ok (.putfield 302, 3) := by decide +kernel
theorem dX12_expr_47 : decode cX12_expr 47 = .ok (.aload_n 0, 1) := by decide +kernel
theorem dX12_expr_48 : decode cX12_expr 48 = .ok (.invokevirtual 381, 3) := by decide +kernel
theorem dX12_expr_51 : decode cX12_expr 51 = .ok (.istore 4, 2) := by decide +kernel
theorem dX12_expr_53 : decode cX12_expr 53 = .ok (.aload_n 0, 1) := by decide +kernel
theorem dX12_expr_54 : decode cX12_expr 54 = .ok (.bipush 7, 2) := by decide +kernel
theorem dX12_expr_56 : decode cX12_expr 56 = .ok (.iload_n 1, 1) := by decide +kernel
theorem dX12_expr_57 : decode cX12_expr 57 = .ok (.iload 4, 2) := by decide +kernel
theorem dX12_expr_59 : decode cX12_expr 59 = .ok (.iconst (-1), 1) := by decide +kernel
theorem dX12_expr_60 : decode cX12_expr 60 = .ok (.iload_n 2, 1) := by decide +kernel
theorem dX12_expr_61 : decode cX12_expr 61 = .ok (.iload_n 3, 1) := by decide +kernel
theorem dX12_expr_62 : decode cX12_expr 62 = .ok (.invokevirtual 389, 3) := by decide +kernel
theorem dX12_expr_65 : decode cX12_expr 65 = .ok (.istore_n 1, 1) := by decide +kernel
theorem dX12_expr_66 : decode cX12_expr 66 = .ok (.goto (-56), 3) := by decide +kernel
theorem dX12_expr_69 : decode cX12_expr 69 = .ok (.aload_n 0, 1) := by decide +kernel
theorem dX12_expr_70 : decode cX12_expr 70 = .ok (.iload_n 2, 1) := by decide +kernel
theorem dX12_expr_71 : decode cX12_expr 71 = .ok (.putfield 384, 3) := by decide +kernel
theorem dX12_expr_74 : decode cX12_expr 74 = .ok (.iload_n 1, 1) := by decide +kernel
theorem dX12_expr_75 : decode cX12_expr 75 = .ok (.ireturn, 1) := by decide +kernel
def m_expr_b69 (F : Nat) (T : TG_expr) (cs1 : RS) (u1 : Int32) (u2 : Int32) : Option (RS × Int32) := some (setF cs1 74 u2, u1)
def m_expr_L10 (F : Nat) (T : TG_expr) : Nat → RS → Int32 → Int32 → Option (RS × Int32)
  | 0, _, _, _ => none
  | lf_10 + 1, cs1, u1, u2 => if (cs1.1 21) = 0 then (m_expr_b69 F T cs1 u1 u2) else (Option.bind (m_isWord F cs1 24) fun v_2 => if v_2 = 0 then (m_expr_b69 F T cs1 u1 u2) else (Option.bind (rdI (cs1.2.2.1 15) 2001 (cs1.1 18)) fun v_4 => Option.bind (T.2.1 (setF cs1 18 ((cs1.1 18) + 1)) ) fun z_5 => Option.bind (m_make F z_5.1 7 u1 z_5.2 (-1) u2 v_4) fun z_6 => (m_expr_L10 F T lf_10) z_6.1 z_6.2 u2))
def b_expr (F : Nat) (T : TG_expr) (cs : RS) : Option (RS × Int32) := Option.bind (T.2.1 cs ) fun z_7 => m_expr_L10 F T F z_7.1 z_7.2 (z_7.1.1 74)
theorem dX12_andExpr_0 : decode cX12_andExpr 0 = .ok (.aload_n 0, 1) := by decide +kernel
theorem dX12_andExpr_1 : decode cX12_andExpr 1 = .ok (.invokevirtual 393, 3) := by decide +kernel
theorem dX12_andExpr_4 : decode cX12_andExpr 4 = .ok (.istore_n 1, 1) := by decide +kernel
theorem dX12_andExpr_5 : decode cX12_andExpr 5 = .ok (.aload_n 0, 1) := by decide +kernel
theorem dX12_andExpr_6 : decode cX12_andExpr 6 = .ok (.getfield 384, 3) := by decide +kernel
theorem dX12_andExpr_9 : decode cX12_andExpr 9 = .ok (.istore_n 2, 1) := by decide +kernel
theorem dX12_andExpr_10 : decode cX12_andExpr 10 = .ok (.aload_n 0, 1) := by decide +kernel
theorem dX12_andExpr_11 : decode cX12_andExpr 11 = .ok (.getfield 292, 3) := by decide +kernel
theorem dX12_andExpr_14 : decode cX12_andExpr 14 = .ok (.ifCond .eq 55, 3) := by decide +kernel
theorem dX12_andExpr_17 : decode cX12_andExpr 17 = .ok (.aload_n 0, 1) := by decide +kernel
theorem dX12_andExpr_18 : decode cX12_andExpr 18 = .ok (.ldc_w 396, 3) := by decide +kernel
theorem dX12_andExpr_21 : decode cX12_andExpr 21 = .ok (.invokevirtual 322, 3) := by decide +kernel
theorem dX12_andExpr_24 : decode cX12_andExpr 24 = .ok (.ifCond .eq 45, 3) := by decide +kernel
theorem dX12_andExpr_27 : decode cX12_andExpr 27 = .ok (.aload_n 0, 1) := by decide +kernel
theorem dX12_andExpr_28 : decode cX12_andExpr 28 = .ok (.getfield 43, 3) := by decide +kernel
theorem dX12_andExpr_31 : decode cX12_andExpr 31 = .ok (.aload_n 0, 1) := by decide +kernel
theorem dX12_andExpr_32 : decode cX12_andExpr 32 = .ok (.getfield 302, 3) := by decide +kernel
theorem dX12_andExpr_35 : decode cX12_andExpr 35 = .ok (.iaload, 1) := by decide +kernel
theorem dX12_andExpr_36 : decode cX12_andExpr 36 = .ok (.istore_n 3, 1) := by decide +kernel
theorem dX12_andExpr_37 : decode cX12_andExpr 37 = .ok (.aload_n 0, 1) := by decide +kernel
theorem dX12_andExpr_38 : decode cX12_andExpr 38 = .ok (.dup, 1) := by decide +kernel
theorem dX12_andExpr_39 : decode cX12_andExpr 39 = .ok (.getfield 302, 3) := by decide +kernel
theorem dX12_andExpr_42 : decode cX12_andExpr 42 = .ok (.iconst 1, 1) := by decide +kernel
theorem dX12_andExpr_43 : decode cX12_andExpr 43 = .ok (.iadd, 1) := by decide +kernel
theorem dX12_andExpr_44 : decode cX12_andExpr 44 = .ok (.putfield 302, 3) := by decide +kernel
theorem dX12_andExpr_47 : decode cX12_andExpr 47 = .ok (.aload_n 0, 1) := by decide +kernel
theorem dX12_andExpr_48 : decode cX12_andExpr 48 = .ok (.invokevirtual 393, 3) := by decide +kernel
theorem dX12_andExpr_51 : decode cX12_andExpr 51 = .ok (.istore 4, 2) := by decide +kernel
theorem dX12_andExpr_53 : decode cX12_andExpr 53 = .ok (.aload_n 0, 1) := by decide +kernel
theorem dX12_andExpr_54 : decode cX12_andExpr 54 = .ok (.bipush 6, 2) := by decide +kernel
theorem dX12_andExpr_56 : decode cX12_andExpr 56 = .ok (.iload_n 1, 1) := by decide +kernel
theorem dX12_andExpr_57 : decode cX12_andExpr 57 = .ok (.iload 4, 2) := by decide +kernel
theorem dX12_andExpr_59 : decode cX12_andExpr 59 = .ok (.iconst (-1), 1) := by decide +kernel
theorem dX12_andExpr_60 : decode cX12_andExpr 60 = .ok (.iload_n 2, 1) := by decide +kernel
theorem dX12_andExpr_61 : decode cX12_andExpr 61 = .ok (.iload_n 3, 1) := by decide +kernel
theorem dX12_andExpr_62 : decode cX12_andExpr 62 = .ok (.invokevirtual 389, 3) := by decide +kernel
theorem dX12_andExpr_65 : decode cX12_andExpr 65 = .ok (.istore_n 1, 1) := by decide +kernel
theorem dX12_andExpr_66 : decode cX12_andExpr 66 = .ok (.goto (-56), 3) := by decide +kernel
theorem dX12_andExpr_69 : decode cX12_andExpr 69 = .ok (.aload_n 0, 1) := by decide +kernel
theorem dX12_andExpr_70 : decode cX12_andExpr 70 = .ok (.iload_n 2, 1) := by decide +kernel
theorem dX12_andExpr_71 : decode cX12_andExpr 71 = .ok (.putfield 384, 3) := by decide +kernel
theorem dX12_andExpr_74 : decode cX12_andExpr 74 = .ok (.iload_n 1, 1) := by decide +kernel
theorem dX12_andExpr_75 : decode cX12_andExpr 75 = .ok (.ireturn, 1) := by decide +kernel
def m_andExpr_b69 (F : Nat) (T : TG_expr) (cs1 : RS) (u1 : Int32) (u2 : Int32) : Option (RS × Int32) := some (setF cs1 74 u2, u1)
def m_andExpr_L10 (F : Nat) (T : TG_expr) : Nat → RS → Int32 → Int32 → Option (RS × Int32)
  | 0, _, _, _ => none
  | lf_10 + 1, cs1, u1, u2 => if (cs1.1 21) = 0 then (m_andExpr_b69 F T cs1 u1 u2) else (Option.bind (m_isWord F cs1 23) fun v_2 => if v_2 = 0 then (m_andExpr_b69 F T cs1 u1 u2) else (Option.bind (rdI (cs1.2.2.1 15) 2001 (cs1.1 18)) fun v_4 => Option.bind (T.2.2.1 (setF cs1 18 ((cs1.1 18) + 1)) ) fun z_5 => Option.bind (m_make F z_5.1 6 u1 z_5.2 (-1) u2 v_4) fun z_6 => (m_andExpr_L10 F T lf_10) z_6.1 z_6.2 u2))
def b_andExpr (F : Nat) (T : TG_expr) (cs : RS) : Option (RS × Int32) := Option.bind (T.2.2.1 cs ) fun z_7 => m_andExpr_L10 F T F z_7.1 z_7.2 (z_7.1.1 74)
theorem dX12_notExpr_0 : decode cX12_notExpr 0 = .ok (.aload_n 0, 1) := by decide +kernel
theorem dX12_notExpr_1 : decode cX12_notExpr 1 = .ok (.ldc_w 376, 3) := by decide +kernel
theorem dX12_notExpr_4 : decode cX12_notExpr 4 = .ok (.invokevirtual 322, 3) := by decide +kernel
theorem dX12_notExpr_7 : decode cX12_notExpr 7 = .ok (.ifCond .ne 8, 3) := by decide +kernel
theorem dX12_notExpr_10 : decode cX12_notExpr 10 = .ok (.aload_n 0, 1) := by decide +kernel
theorem dX12_notExpr_11 : decode cX12_notExpr 11 = .ok (.invokevirtual 398, 3) := by decide +kernel
theorem dX12_notExpr_14 : decode cX12_notExpr 14 = .ok (.ireturn, 1) := by decide +kernel
theorem dX12_notExpr_15 : decode cX12_notExpr 15 = .ok (.aload_n 0, 1) := by decide +kernel
theorem dX12_notExpr_16 : decode cX12_notExpr 16 = .ok (.getfield 43, 3) := by decide +kernel
theorem dX12_notExpr_19 : decode cX12_notExpr 19 = .ok (.aload_n 0, 1) := by decide +kernel
theorem dX12_notExpr_20 : decode cX12_notExpr 20 = .ok (.getfield 302, 3) := by decide +kernel
theorem dX12_notExpr_23 : decode cX12_notExpr 23 = .ok (.iaload, 1) := by decide +kernel
theorem dX12_notExpr_24 : decode cX12_notExpr 24 = .ok (.istore_n 1, 1) := by decide +kernel
theorem dX12_notExpr_25 : decode cX12_notExpr 25 = .ok (.aload_n 0, 1) := by decide +kernel
theorem dX12_notExpr_26 : decode cX12_notExpr 26 = .ok (.iload_n 1, 1) := by decide +kernel
theorem dX12_notExpr_27 : decode cX12_notExpr 27 = .ok (.invokevirtual 401, 3) := by decide +kernel
theorem dX12_notExpr_30 : decode cX12_notExpr 30 = .ok (.aload_n 0, 1) := by decide +kernel
theorem dX12_notExpr_31 : decode cX12_notExpr 31 = .ok (.dup, 1) := by decide +kernel
theorem dX12_notExpr_32 : decode cX12_notExpr 32 = .ok (.getfield 302, 3) := by decide +kernel
theorem dX12_notExpr_35 : decode cX12_notExpr 35 = .ok (.iconst 1, 1) := by decide +kernel
theorem dX12_notExpr_36 : decode cX12_notExpr 36 = .ok (.iadd, 1) := by decide +kernel
theorem dX12_notExpr_37 : decode cX12_notExpr 37 = .ok (.putfield 302, 3) := by decide +kernel
theorem dX12_notExpr_40 : decode cX12_notExpr 40 = .ok (.aload_n 0, 1) := by decide +kernel
theorem dX12_notExpr_41 : decode cX12_notExpr 41 = .ok (.getfield 292, 3) := by decide +kernel
theorem dX12_notExpr_44 : decode cX12_notExpr 44 = .ok (.ifCond .eq 10, 3) := by decide +kernel
theorem dX12_notExpr_47 : decode cX12_notExpr 47 = .ok (.aload_n 0, 1) := by decide +kernel
theorem dX12_notExpr_48 : decode cX12_notExpr 48 = .ok (.invokevirtual 393, 3) := by decide +kernel
theorem dX12_notExpr_51 : decode cX12_notExpr 51 = .ok (.goto 4, 3) := by decide +kernel
theorem dX12_notExpr_54 : decode cX12_notExpr 54 = .ok (.iconst 0, 1) := by decide +kernel
theorem dX12_notExpr_55 : decode cX12_notExpr 55 = .ok (.istore_n 2, 1) := by decide +kernel
theorem dX12_notExpr_56 : decode cX12_notExpr 56 = .ok (.aload_n 0, 1) := by decide +kernel
theorem dX12_notExpr_57 : decode cX12_notExpr 57 = .ok (.dup, 1) := by decide +kernel
theorem dX12_notExpr_58 : decode cX12_notExpr 58 = .ok (.getfield 347, 3) := by decide +kernel
theorem dX12_notExpr_61 : decode cX12_notExpr 61 = .ok (.iconst 1, 1) := by decide +kernel
theorem dX12_notExpr_62 : decode cX12_notExpr 62 = .ok (.isub, 1) := by decide +kernel
theorem dX12_notExpr_63 : decode cX12_notExpr 63 = .ok (.putfield 347, 3) := by decide +kernel
theorem dX12_notExpr_66 : decode cX12_notExpr 66 = .ok (.aload_n 0, 1) := by decide +kernel
theorem dX12_notExpr_67 : decode cX12_notExpr 67 = .ok (.bipush 8, 2) := by decide +kernel
theorem dX12_notExpr_69 : decode cX12_notExpr 69 = .ok (.iload_n 2, 1) := by decide +kernel
theorem dX12_notExpr_70 : decode cX12_notExpr 70 = .ok (.iconst (-1), 1) := by decide +kernel
theorem dX12_notExpr_71 : decode cX12_notExpr 71 = .ok (.iconst (-1), 1) := by decide +kernel
theorem dX12_notExpr_72 : decode cX12_notExpr 72 = .ok (.iload_n 1, 1) := by decide +kernel
theorem dX12_notExpr_73 : decode cX12_notExpr 73 = .ok (.iload_n 1, 1) := by decide +kernel
theorem dX12_notExpr_74 : decode cX12_notExpr 74 = .ok (.invokevirtual 389, 3) := by decide +kernel
theorem dX12_notExpr_77 : decode cX12_notExpr 77 = .ok (.istore_n 2, 1) := by decide +kernel
theorem dX12_notExpr_78 : decode cX12_notExpr 78 = .ok (.aload_n 0, 1) := by decide +kernel
theorem dX12_notExpr_79 : decode cX12_notExpr 79 = .ok (.iload_n 1, 1) := by decide +kernel
theorem dX12_notExpr_80 : decode cX12_notExpr 80 = .ok (.putfield 384, 3) := by decide +kernel
theorem dX12_notExpr_83 : decode cX12_notExpr 83 = .ok (.iload_n 2, 1) := by decide +kernel
theorem dX12_notExpr_84 : decode cX12_notExpr 84 = .ok (.ireturn, 1) := by decide +kernel
def m_notExpr_b55 (F : Nat) (T : TG_expr) (cs1 : RS) (u1 : Int32) (y0 : Int32) : Option (RS × Int32) := Option.bind (m_make F (setF cs1 70 ((cs1.1 70) - 1)) 8 y0 (-1) (-1) u1 u1) fun z_1 => some (setF z_1.1 74 u1, z_1.2)
def b_notExpr (F : Nat) (T : TG_expr) (cs : RS) : Option (RS × Int32) := Option.bind (m_isWord F cs 16) fun v_2 => if v_2 = 0 then (Option.bind (T.2.2.2.1 cs ) fun z_8 => some (z_8.1, z_8.2)) else (Option.bind (rdI (cs.2.2.1 15) 2001 (cs.1 18)) fun v_4 => Option.bind (m_deeper F cs v_4) fun cs_5 => if ((setF cs_5 18 ((cs_5.1 18) + 1)).1 21) = 0 then (m_notExpr_b55 F T (setF cs_5 18 ((cs_5.1 18) + 1)) v_4 0) else (Option.bind (T.2.2.1 (setF cs_5 18 ((cs_5.1 18) + 1)) ) fun z_7 => m_notExpr_b55 F T z_7.1 v_4 z_7.2))
theorem dX12_test_0 : decode cX12_test 0 = .ok (.aload_n 0, 1) := by decide +kernel
theorem dX12_test_1 : decode cX12_test 1 = .ok (.invokevirtual 404, 3) := by decide +kernel
theorem dX12_test_4 : decode cX12_test 4 = .ok (.istore_n 1, 1) := by decide +kernel
theorem dX12_test_5 : decode cX12_test 5 = .ok (.aload_n 0, 1) := by decide +kernel
theorem dX12_test_6 : decode cX12_test 6 = .ok (.getfield 384, 3) := by decide +kernel
theorem dX12_test_9 : decode cX12_test 9 = .ok (.istore_n 2, 1) := by decide +kernel
theorem dX12_test_10 : decode cX12_test 10 = .ok (.aload_n 0, 1) := by decide +kernel
theorem dX12_test_11 : decode cX12_test 11 = .ok (.getfield 43, 3) := by decide +kernel
theorem dX12_test_14 : decode cX12_test 14 = .ok (.aload_n 0, 1) := by decide +kernel
theorem dX12_test_15 : decode cX12_test 15 = .ok (.getfield 302, 3) := by decide +kernel
theorem dX12_test_18 : decode cX12_test 18 = .ok (.iaload, 1) := by decide +kernel
theorem dX12_test_19 : decode cX12_test 19 = .ok (.istore_n 3, 1) := by decide +kernel
theorem dX12_test_20 : decode cX12_test 20 = .ok (.aload_n 0, 1) := by decide +kernel
theorem dX12_test_21 : decode cX12_test 21 = .ok (.getfield 40, 3) := by decide +kernel
theorem dX12_test_24 : decode cX12_test 24 = .ok (.aload_n 0, 1) := by decide +kernel
theorem dX12_test_25 : decode cX12_test 25 = .ok (.getfield 302, 3) := by decide +kernel
theorem dX12_test_28 : decode cX12_test 28 = .ok (.iaload, 1) := by decide +kernel
theorem dX12_test_29 : decode cX12_test 29 = .ok (.istore 4, 2) := by decide +kernel
theorem dX12_test_31 : decode cX12_test 31 = .ok (.aload_n 0, 1) := by decide +kernel
theorem dX12_test_32 : decode cX12_test 32 = .ok (.getfield 292, 3) := by decide +kernel
theorem dX12_test_35 : decode cX12_test 35 = .ok (.ifCond .eq 88, 3) := by decide +kernel
theorem dX12_test_38 : decode cX12_test 38 = .ok (.iload 4, 2) := by decide +kernel
theorem dX12_test_40 : decode cX12_test 40 = .ok (.bipush 61, 2) := by decide +kernel
theorem dX12_test_42 : decode cX12_test 42 = .ok (.if_icmp .eq 41, 3) := by decide +kernel
theorem dX12_test_45 : decode cX12_test 45 = .ok (.iload 4, 2) := by decide +kernel
theorem dX12_test_47 : decode cX12_test 47 = .ok (.sipush 400, 3) := by decide +kernel
theorem dX12_test_50 : decode cX12_test 50 = .ok (.if_icmp .eq 33, 3) := by decide +kernel
theorem dX12_test_53 : decode cX12_test 53 = .ok (.iload 4, 2) := by decide +kernel
theorem dX12_test_55 : decode cX12_test 55 = .ok (.bipush 60, 2) := by decide +kernel
theorem dX12_test_57 : decode cX12_test 57 = .ok (.if_icmp .eq 26, 3) := by decide +kernel
theorem dX12_test_60 : decode cX12_test 60 = .ok (.iload 4, 2) := by decide +kernel
theorem dX12_test_62 : decode cX12_test 62 = .ok (.sipush 401, 3) := by decide +kernel
theorem dX12_test_65 : decode cX12_test 65 = .ok (.if_icmp .eq 18, 3) := by decide +kernel
theorem dX12_test_68 : decode cX12_test 68 = .ok (.iload 4, 2) := by decide +kernel
theorem dX12_test_70 : decode cX12_test 70 = .ok (.bipush 62, 2) := by decide +kernel
theorem dX12_test_72 : decode cX12_test 72 = .ok (.if_icmp .eq 11, 3) := by decide +kernel
theorem dX12_test_75 : decode cX12_test 75 = .ok (.iload 4, 2) := by decide +kernel
theorem dX12_test_77 : decode cX12_test 77 = .ok (.sipush 402, 3) := by decide +kernel
theorem dX12_test_80 : decode cX12_test 80 = .ok (.if_icmp .ne 43, 3) := by decide +kernel
theorem dX12_test_83 : decode cX12_test 83 = .ok (.aload_n 0, 1) := by decide +kernel
theorem dX12_test_84 : decode cX12_test 84 = .ok (.dup, 1) := by decide +kernel
theorem dX12_test_85 : decode cX12_test 85 = .ok (.getfield 302, 3) := by decide +kernel
theorem dX12_test_88 : decode cX12_test 88 = .ok (.iconst 1, 1) := by decide +kernel
theorem dX12_test_89 : decode cX12_test 89 = .ok (.iadd, 1) := by decide +kernel
theorem dX12_test_90 : decode cX12_test 90 = .ok (.putfield 302, 3) := by decide +kernel
theorem dX12_test_93 : decode cX12_test 93 = .ok (.aload_n 0, 1) := by decide +kernel
theorem dX12_test_94 : decode cX12_test 94 = .ok (.invokevirtual 404, 3) := by decide +kernel
theorem dX12_test_97 : decode cX12_test 97 = .ok (.istore 5, 2) := by decide +kernel
theorem dX12_test_99 : decode cX12_test 99 = .ok (.aload_n 0, 1) := by decide +kernel
theorem dX12_test_100 : decode cX12_test 100 = .ok (.bipush 9, 2) := by decide +kernel
theorem dX12_test_102 : decode cX12_test 102 = .ok (.iload_n 1, 1) := by decide +kernel
theorem dX12_test_103 : decode cX12_test 103 = .ok (.iload 5, 2) := by decide +kernel
theorem dX12_test_105 : decode cX12_test 105 = .ok (.iconst (-1), 1) := by decide +kernel
theorem dX12_test_106 : decode cX12_test 106 = .ok (.iload_n 2, 1) := by decide +kernel
theorem dX12_test_107 : decode cX12_test 107 = .ok (.iload_n 3, 1) := by decide +kernel
theorem dX12_test_108 : decode cX12_test 108 = .ok (.invokevirtual 389, 3) := by decide +kernel
theorem dX12_test_111 : decode cX12_test 111 = .ok (.istore_n 1, 1) := by decide +kernel
theorem dX12_test_112 : decode cX12_test 112 = .ok (.aload_n 0, 1) := by decide +kernel
theorem dX12_test_113 : decode cX12_test 113 = .ok (.getfield 64, 3) := by decide +kernel
theorem dX12_test_116 : decode cX12_test 116 = .ok (.iload_n 1, 1) := by decide +kernel
theorem dX12_test_117 : decode cX12_test 117 = .ok (.iload 4, 2) := by decide +kernel
theorem dX12_test_119 : decode cX12_test 119 = .ok (.iastore, 1) := by decide +kernel
theorem dX12_test_120 : decode cX12_test 120 = .ok (.goto 251, 3) := by decide +kernel
theorem dX12_test_123 : decode cX12_test 123 = .ok (.aload_n 0, 1) := by decide +kernel
theorem dX12_test_124 : decode cX12_test 124 = .ok (.ldc_w 406, 3) := by decide +kernel
theorem dX12_test_127 : decode cX12_test 127 = .ok (.invokevirtual 326, 3) := by decide +kernel
theorem dX12_test_130 : decode cX12_test 130 = .ok (.ifCond .eq 50, 3) := by decide +kernel
theorem dX12_test_133 : decode cX12_test 133 = .ok (.aload_n 0, 1) := by decide +kernel
theorem dX12_test_134 : decode cX12_test 134 = .ok (.ldc_w 376, 3) := by decide +kernel
theorem dX12_test_137 : decode cX12_test 137 = .ok (.invokevirtual 326, 3) := by decide +kernel
theorem dX12_test_140 : decode cX12_test 140 = .ok (.istore 5, 2) := by decide +kernel
theorem dX12_test_142 : decode cX12_test 142 = .ok (.aload_n 0, 1) := by decide +kernel
theorem dX12_test_143 : decode cX12_test 143 = .ok (.ldc_w 364, 3) := by decide +kernel
theorem dX12_test_146 : decode cX12_test 146 = .ok (.invokevirtual 408, 3) := by decide +kernel
theorem dX12_test_149 : decode cX12_test 149 = .ok (.aload_n 0, 1) := by decide +kernel
theorem dX12_test_150 : decode cX12_test 150 = .ok (.bipush 10, 2) := by decide +kernel
theorem dX12_test_152 : decode cX12_test 152 = .ok (.iload_n 1, 1) := by decide +kernel
theorem dX12_test_153 : decode cX12_test 153 = .ok (.iconst (-1), 1) := by decide +kernel
theorem dX12_test_154 : decode cX12_test 154 = .ok (.iconst (-1), 1) := by decide +kernel
theorem dX12_test_155 : decode cX12_test 155 = .ok (.iload_n 2, 1) := by decide +kernel
theorem dX12_test_156 : decode cX12_test 156 = .ok (.iload_n 3, 1) := by decide +kernel
theorem dX12_test_157 : decode cX12_test 157 = .ok (.invokevirtual 389, 3) := by decide +kernel
theorem dX12_test_160 : decode cX12_test 160 = .ok (.istore_n 1, 1) := by decide +kernel
theorem dX12_test_161 : decode cX12_test 161 = .ok (.aload_n 0, 1) := by decide +kernel
theorem dX12_test_162 : decode cX12_test 162 = .ok (.getfield 64, 3) := by decide +kernel
theorem dX12_test_165 : decode cX12_test 165 = .ok (.iload_n 1, 1) := by decide +kernel
theorem dX12_test_166 : decode cX12_test 166 = .ok (.iload 5, 2) := by decide +kernel
theorem dX12_test_168 : decode cX12_test 168 = .ok (.ifCond .eq 7, 3) := by decide +kernel
theorem dX12_test_171 : decode cX12_test 171 = .ok (.iconst 1, 1) := by decide +kernel
theorem dX12_test_172 : decode cX12_test 172 = .ok (.goto 4, 3) := by decide +kernel
theorem dX12_test_175 : decode cX12_test 175 = .ok (.iconst 0, 1) := by decide +kernel
theorem dX12_test_176 : decode cX12_test 176 = .ok (.iastore, 1) := by decide +kernel
theorem dX12_test_177 : decode cX12_test 177 = .ok (.goto 194, 3) := by decide +kernel
theorem dX12_test_180 : decode cX12_test 180 = .ok (.aload_n 0, 1) := by decide +kernel
theorem dX12_test_181 : decode cX12_test 181 = .ok (.ldc_w 376, 3) := by decide +kernel
theorem dX12_test_184 : decode cX12_test 184 = .ok (.invokevirtual 322, 3) := by decide +kernel
theorem dX12_test_187 : decode cX12_test 187 = .ok (.ifCond .ne 13, 3) := by decide +kernel
theorem dX12_test_190 : decode cX12_test 190 = .ok (.aload_n 0, 1) := by decide +kernel
theorem dX12_test_191 : decode cX12_test 191 = .ok (.ldc_w 412, 3) := by decide +kernel
theorem dX12_test_194 : decode cX12_test 194 = .ok (.invokevirtual 322, 3) := by decide +kernel
theorem dX12_test_197 : decode cX12_test 197 = .ok (.ifCond .eq 174, 3) := by decide +kernel
theorem dX12_test_200 : decode cX12_test 200 = .ok (.aload_n 0, 1) := by decide +kernel
theorem dX12_test_201 : decode cX12_test 201 = .ok (.ldc_w 376, 3) := by decide +kernel
theorem dX12_test_204 : decode cX12_test 204 = .ok (.invokevirtual 326, 3) := by decide +kernel
theorem dX12_test_207 : decode cX12_test 207 = .ok (.istore 5, 2) := by decide +kernel
theorem dX12_test_209 : decode cX12_test 209 = .ok (.aload_n 0, 1) := by decide +kernel
theorem dX12_test_210 : decode cX12_test 210 = .ok (.ldc_w 412, 3) := by decide +kernel
theorem dX12_test_213 : decode cX12_test 213 = .ok (.invokevirtual 408, 3) := by decide +kernel
theorem dX12_test_216 : decode cX12_test 216 = .ok (.aload_n 0, 1) := by decide +kernel
theorem dX12_test_217 : decode cX12_test 217 = .ok (.bipush 40, 2) := by decide +kernel
theorem dX12_test_219 : decode cX12_test 219 = .ok (.invokevirtual 414, 3) := by decide +kernel
theorem dX12_test_222 : decode cX12_test 222 = .ok (.iconst (-1), 1) := by decide +kernel
theorem dX12_test_223 : decode cX12_test 223 = .ok (.istore 6, 2) := by decide +kernel
theorem dX12_test_225 : decode cX12_test 225 = .ok (.iconst (-1), 1) := by decide +kernel
theorem dX12_test_226 : decode cX12_test 226 = .ok (.istore 7, 2) := by decide +kernel
theorem dX12_test_228 : decode cX12_test 228 = .ok (.iconst 0, 1) := by decide +kernel
theorem dX12_test_229 : decode cX12_test 229 = .ok (.istore 8, 2) := by decide +kernel
theorem dX12_test_231 : decode cX12_test 231 = .ok (.iconst 1, 1) := by decide +kernel
theorem dX12_test_232 : decode cX12_test 232 = .ok (.istore 9, 2) := by decide +kernel
theorem dX12_test_234 : decode cX12_test 234 = .ok (.iload 9, 2) := by decide +kernel
theorem dX12_test_236 : decode cX12_test 236 = .ok (.ifCond .eq 100, 3) := by decide +kernel
theorem dX12_test_239 : decode cX12_test 239 = .ok (.aload_n 0, 1) := by decide +kernel
theorem dX12_test_240 : decode cX12_test 240 = .ok (.getfield 292, 3) := by decide +kernel
theorem dX12_test_243 : decode cX12_test 243 = .ok (.ifCond .eq 93, 3) := by decide +kernel
theorem dX12_test_246 : decode cX12_test 246 = .ok (.iinc 8 1, 3) := by decide +kernel
theorem dX12_test_249 : decode cX12_test 249 = .ok (.iload 8, 2) := by decide +kernel
theorem dX12_test_251 : decode cX12_test 251 = .ok (.bipush 9, 2) := by decide +kernel
theorem dX12_test_253 : decode cX12_test 253 = .ok (.if_icmp .ne 26, 3) := by decide +kernel
theorem dX12_test_256 : decode cX12_test 256 = .ok (.aload_n 0, 1) := by decide +kernel
theorem dX12_test_257 : decode cX12_test 257 = .ok (.iconst 1, 1) := by decide +kernel
theorem dX12_test_258 : decode cX12_test 258 = .ok (.invokevirtual 417, 3) := by decide +kernel
theorem dX12_test_261 : decode cX12_test 261 = .ok (.ifCond .eq 18, 3) := by decide +kernel
theorem dX12_test_264 : decode cX12_test 264 = .ok (.aload_n 0, 1) := by decide +kernel
theorem dX12_test_265 : decode cX12_test 265 = .ok (.bipush 7, 2) := by decide +kernel
theorem dX12_test_267 : decode cX12_test 267 = .ok (.aload_n 0, 1) := by decide +kernel
theorem dX12_test_268 : decode cX12_test 268 = .ok (.getfield 43, 3) := by decide +kernel
theorem dX12_test_271 : decode cX12_test 271 = .ok (.aload_n 0, 1) := by decide +kernel
theorem dX12_test_272 : decode cX12_test 272 = .ok (.getfield 302, 3) := by decide +kernel
theorem dX12_test_275 : decode cX12_test 275 = .ok (.iaload, 1) := by decide +kernel
theorem dX12_test_276 : decode cX12_test 276 = .ok (.invokevirtual 305, 3) := by decide +kernel
theorem dX12_test_279 : decode cX12_test 279 = .ok (.aload_n 0, 1) := by decide +kernel
theorem dX12_test_280 : decode cX12_test 280 = .ok (.invokevirtual 404, 3) := by decide +kernel
theorem dX12_test_283 : decode cX12_test 283 = .ok (.istore 10, 2) := by decide +kernel
theorem dX12_test_285 : decode cX12_test 285 = .ok (.aload_n 0, 1) := by decide +kernel
theorem dX12_test_286 : decode cX12_test 286 = .ok (.getfield 292, 3) := by decide +kernel
theorem dX12_test_289 : decode cX12_test 289 = .ok (.ifCond .eq 16, 3) := by decide +kernel
theorem dX12_test_292 : decode cX12_test 292 = .ok (.iload 7, 2) := by decide +kernel
theorem dX12_test_294 : decode cX12_test 294 = .ok (.iconst (-1), 1) := by decide +kernel
theorem dX12_test_295 : decode cX12_test 295 = .ok (.if_icmp .ne 10, 3) := by decide +kernel
theorem dX12_test_298 : decode cX12_test 298 = .ok (.iload 10, 2) := by decide +kernel
theorem dX12_test_300 : decode cX12_test 300 = .ok (.istore 6, 2) := by decide +kernel
theorem dX12_test_302 : decode cX12_test 302 = .ok (.goto 19, 3) := by decide +kernel
theorem dX12_test_305 : decode cX12_test 305 = .ok (.aload_n 0, 1) := by decide +kernel
theorem dX12_test_306 : decode cX12_test 306 = .ok (.getfield 292, 3) := by decide +kernel
theorem dX12_test_309 : decode cX12_test 309 = .ok (.ifCond .eq 12, 3) := by decide +kernel
theorem dX12_test_312 : decode cX12_test 312 = .ok (.aload_n 0, 1) := by decide +kernel
theorem dX12_test_313 : decode cX12_test 313 = .ok (.getfield 79, 3) := by decide +kernel
theorem dX12_test_316 : decode cX12_test 316 = .ok (.iload 7, 2) := by decide +kernel
theorem dX12_test_318 : decode cX12_test 318 = .ok (.iload 10, 2) := by decide +kernel
theorem dX12_test_320 : decode cX12_test 320 = .ok (.iastore, 1) := by decide +kernel
theorem dX12_test_321 : decode cX12_test 321 = .ok (.iload 10, 2) := by decide +kernel
theorem dX12_test_323 : decode cX12_test 323 = .ok (.istore 7, 2) := by decide +kernel
theorem dX12_test_325 : decode cX12_test 325 = .ok (.aload_n 0, 1) := by decide +kernel
theorem dX12_test_326 : decode cX12_test 326 = .ok (.bipush 44, 2) := by decide +kernel
theorem dX12_test_328 : decode cX12_test 328 = .ok (.invokevirtual 335, 3) := by decide +kernel
theorem dX12_test_331 : decode cX12_test 331 = .ok (.istore 9, 2) := by decide +kernel
theorem dX12_test_333 : decode cX12_test 333 = .ok (.goto (-99), 3) := by decide +kernel
theorem dX12_test_336 : decode cX12_test 336 = .ok (.aload_n 0, 1) := by decide +kernel
theorem dX12_test_337 : decode cX12_test 337 = .ok (.bipush 41, 2) := by decide +kernel
theorem dX12_test_339 : decode cX12_test 339 = .ok (.invokevirtual 414, 3) := by decide +kernel
theorem dX12_test_342 : decode cX12_test 342 = .ok (.aload_n 0, 1) := by decide +kernel
theorem dX12_test_343 : decode cX12_test 343 = .ok (.bipush 11, 2) := by decide +kernel
theorem dX12_test_345 : decode cX12_test 345 = .ok (.iload_n 1, 1) := by decide +kernel
theorem dX12_test_346 : decode cX12_test 346 = .ok (.iload 6, 2) := by decide +kernel
theorem dX12_test_348 : decode cX12_test 348 = .ok (.iconst (-1), 1) := by decide +kernel
theorem dX12_test_349 : decode cX12_test 349 = .ok (.iload_n 2, 1) := by decide +kernel
theorem dX12_test_350 : decode cX12_test 350 = .ok (.iload_n 3, 1) := by decide +kernel
theorem dX12_test_351 : decode cX12_test 351 = .ok (.invokevirtual 389, 3) := by decide +kernel
theorem dX12_test_354 : decode cX12_test 354 = .ok (.istore_n 1, 1) := by decide +kernel
theorem dX12_test_355 : decode cX12_test 355 = .ok (.aload_n 0, 1) := by decide +kernel
theorem dX12_test_356 : decode cX12_test 356 = .ok (.getfield 64, 3) := by decide +kernel
theorem dX12_test_359 : decode cX12_test 359 = .ok (.iload_n 1, 1) := by decide +kernel
theorem dX12_test_360 : decode cX12_test 360 = .ok (.iload 5, 2) := by decide +kernel
theorem dX12_test_362 : decode cX12_test 362 = .ok (.ifCond .eq 7, 3) := by decide +kernel
theorem dX12_test_365 : decode cX12_test 365 = .ok (.iconst 1, 1) := by decide +kernel
theorem dX12_test_366 : decode cX12_test 366 = .ok (.goto 4, 3) := by decide +kernel
theorem dX12_test_369 : decode cX12_test 369 = .ok (.iconst 0, 1) := by decide +kernel
theorem dX12_test_370 : decode cX12_test 370 = .ok (.iastore, 1) := by decide +kernel
theorem dX12_test_371 : decode cX12_test 371 = .ok (.aload_n 0, 1) := by decide +kernel
theorem dX12_test_372 : decode cX12_test 372 = .ok (.iload_n 2, 1) := by decide +kernel
theorem dX12_test_373 : decode cX12_test 373 = .ok (.putfield 384, 3) := by decide +kernel
theorem dX12_test_376 : decode cX12_test 376 = .ok (.iload_n 1, 1) := by decide +kernel
theorem dX12_test_377 : decode cX12_test 377 = .ok (.ireturn, 1) := by decide +kernel
def m_test_b371 (F : Nat) (T : TG_expr) (cs1 : RS) (u1 : Int32) (u2 : Int32) : Option (RS × Int32) := some (setF cs1 74 u2, u1)
def m_test_b83 (F : Nat) (T : TG_expr) (cs1 : RS) (u1 : Int32) (u2 : Int32) (u3 : Int32) (u4 : Int32) : Option (RS × Int32) := Option.bind (T.2.2.2.2.1 (setF cs1 18 ((cs1.1 18) + 1)) ) fun z_1 => Option.bind (m_make F z_1.1 9 u1 z_1.2 (-1) u2 u3) fun z_2 => Option.bind (wrI z_2.1 27 121 z_2.2 u4) fun cs_3 => m_test_b371 F T cs_3 z_2.2 u2
def m_test_b176 (F : Nat) (T : TG_expr) (cs1 : RS) (u1 : Int32) (u2 : Int32) (y0 : Int32) (y1 : Int32) : Option (RS × Int32) := Option.bind (wrI cs1 27 121 y1 y0) fun cs_4 => m_test_b371 F T cs_4 u1 u2
def m_test_b370 (F : Nat) (T : TG_expr) (cs1 : RS) (u1 : Int32) (u2 : Int32) (y0 : Int32) (y1 : Int32) : Option (RS × Int32) := Option.bind (wrI cs1 27 121 y1 y0) fun cs_5 => m_test_b371 F T cs_5 u1 u2
def m_test_b336 (F : Nat) (T : TG_expr) (cs1 : RS) (u1 : Int32) (u2 : Int32) (u3 : Int32) (u5 : Int32) (u6 : Int32) : Option (RS × Int32) := Option.bind (m_needSign F cs1 41) fun cs_6 => Option.bind (m_make F cs_6 11 u1 u6 (-1) u2 u3) fun z_7 => if u5 = 0 then (m_test_b370 F T z_7.1 z_7.2 u2 0 z_7.2) else (m_test_b370 F T z_7.1 z_7.2 u2 1 z_7.2)
def m_test_b321 (F : Nat) (T : TG_expr) (rc234 : RS → Int32 → Int32 → Int32 → Int32 → Int32 → Int32 → Int32 → Int32 → Option (RS × Int32)) (cs1 : RS) (u1 : Int32) (u2 : Int32) (u3 : Int32) (u5 : Int32) (u6 : Int32) (u8 : Int32) (u10 : Int32) : Option (RS × Int32) := Option.bind (m_takeSign F cs1 44) fun z_9 => rc234 z_9.1 u1 u2 u3 u5 u6 u10 u8 z_9.2
def m_test_b305 (F : Nat) (T : TG_expr) (rc234 : RS → Int32 → Int32 → Int32 → Int32 → Int32 → Int32 → Int32 → Int32 → Option (RS × Int32)) (cs1 : RS) (u1 : Int32) (u2 : Int32) (u3 : Int32) (u5 : Int32) (u6 : Int32) (u7 : Int32) (u8 : Int32) (u10 : Int32) : Option (RS × Int32) := if (cs1.1 21) = 0 then (m_test_b321 F T rc234 cs1 u1 u2 u3 u5 u6 u8 u10) else (Option.bind (wrI cs1 32 121 u7 u10) fun cs_11 => m_test_b321 F T rc234 cs_11 u1 u2 u3 u5 u6 u8 u10)
def m_test_b279 (F : Nat) (T : TG_expr) (rc234 : RS → Int32 → Int32 → Int32 → Int32 → Int32 → Int32 → Int32 → Int32 → Option (RS × Int32)) (cs1 : RS) (u1 : Int32) (u2 : Int32) (u3 : Int32) (u5 : Int32) (u6 : Int32) (u7 : Int32) (u8 : Int32) : Option (RS × Int32) := Option.bind (T.2.2.2.2.1 cs1 ) fun z_12 => if (z_12.1.1 21) = 0 then (m_test_b305 F T rc234 z_12.1 u1 u2 u3 u5 u6 u7 u8 z_12.2) else (if u7 = (-1) then (m_test_b321 F T rc234 z_12.1 u1 u2 u3 u5 z_12.2 u8 z_12.2) else (m_test_b305 F T rc234 z_12.1 u1 u2 u3 u5 u6 u7 u8 z_12.2))
def m_test_L234 (F : Nat) (T : TG_expr) : Nat → RS → Int32 → Int32 → Int32 → Int32 → Int32 → Int32 → Int32 → Int32 → Option (RS × Int32)
  | 0, _, _, _, _, _, _, _, _, _ => none
  | lf_234 + 1, cs1, u1, u2, u3, u5, u6, u7, u8, u9 => if u9 = 0 then (m_test_b336 F T cs1 u1 u2 u3 u5 u6) else (if (cs1.1 21) = 0 then (m_test_b336 F T cs1 u1 u2 u3 u5 u6) else (if (u8 + 1) = 9 then (Option.bind (m_begins F cs1 1) fun v_18 => if v_18 = 0 then (m_test_b279 F T (m_test_L234 F T lf_234) cs1 u1 u2 u3 u5 u6 u7 (u8 + 1)) else (Option.bind (rdI (cs1.2.2.1 15) 2001 (cs1.1 18)) fun v_20 => Option.bind (m_tell F cs1 7 v_20) fun cs_21 => m_test_b279 F T (m_test_L234 F T lf_234) cs_21 u1 u2 u3 u5 u6 u7 (u8 + 1))) else (m_test_b279 F T (m_test_L234 F T lf_234) cs1 u1 u2 u3 u5 u6 u7 (u8 + 1))))
def m_test_b200 (F : Nat) (T : TG_expr) (cs1 : RS) (u1 : Int32) (u2 : Int32) (u3 : Int32) : Option (RS × Int32) := Option.bind (m_takeWord F cs1 16) fun z_22 => Option.bind (m_needWord F z_22.1 22) fun cs_23 => Option.bind (m_needSign F cs_23 40) fun cs_24 => m_test_L234 F T F cs_24 u1 u2 u3 z_22.2 (-1) (-1) 0 1
def m_test_b123 (F : Nat) (T : TG_expr) (cs1 : RS) (u1 : Int32) (u2 : Int32) (u3 : Int32) : Option (RS × Int32) := Option.bind (m_takeWord F cs1 21) fun z_25 => if z_25.2 = 0 then (Option.bind (m_isWord F z_25.1 16) fun v_27 => if v_27 = 0 then (Option.bind (m_isWord F z_25.1 22) fun v_29 => if v_29 = 0 then (m_test_b371 F T z_25.1 u1 u2) else (m_test_b200 F T z_25.1 u1 u2 u3)) else (m_test_b200 F T z_25.1 u1 u2 u3)) else (Option.bind (m_takeWord F z_25.1 16) fun z_31 => Option.bind (m_needWord F z_31.1 9) fun cs_32 => Option.bind (m_make F cs_32 10 u1 (-1) (-1) u2 u3) fun z_33 => if z_31.2 = 0 then (m_test_b176 F T z_33.1 z_33.2 u2 0 z_33.2) else (m_test_b176 F T z_33.1 z_33.2 u2 1 z_33.2))
def b_test (F : Nat) (T : TG_expr) (cs : RS) : Option (RS × Int32) := Option.bind (T.2.2.2.2.1 cs ) fun z_35 => Option.bind (rdI (z_35.1.2.2.1 15) 2001 (z_35.1.1 18)) fun v_36 => Option.bind (rdI (z_35.1.2.2.1 14) 2001 (z_35.1.1 18)) fun v_37 => if (z_35.1.1 21) = 0 then (m_test_b123 F T z_35.1 z_35.2 (z_35.1.1 74) v_36) else (if v_37 = 61 then (m_test_b83 F T z_35.1 z_35.2 (z_35.1.1 74) v_36 v_37) else (if v_37 = 400 then (m_test_b83 F T z_35.1 z_35.2 (z_35.1.1 74) v_36 v_37) else (if v_37 = 60 then (m_test_b83 F T z_35.1 z_35.2 (z_35.1.1 74) v_36 v_37) else (if v_37 = 401 then (m_test_b83 F T z_35.1 z_35.2 (z_35.1.1 74) v_36 v_37) else (if v_37 = 62 then (m_test_b83 F T z_35.1 z_35.2 (z_35.1.1 74) v_36 v_37) else (if v_37 = 402 then (m_test_b83 F T z_35.1 z_35.2 (z_35.1.1 74) v_36 v_37) else (m_test_b123 F T z_35.1 z_35.2 (z_35.1.1 74) v_36)))))))
theorem dX12_sum_0 : decode cX12_sum 0 = .ok (.aload_n 0, 1) := by decide +kernel
theorem dX12_sum_1 : decode cX12_sum 1 = .ok (.invokevirtual 420, 3) := by decide +kernel
theorem dX12_sum_4 : decode cX12_sum 4 = .ok (.istore_n 1, 1) := by decide +kernel
theorem dX12_sum_5 : decode cX12_sum 5 = .ok (.aload_n 0, 1) := by decide +kernel
theorem dX12_sum_6 : decode cX12_sum 6 = .ok (.getfield 384, 3) := by decide +kernel
theorem dX12_sum_9 : decode cX12_sum 9 = .ok (.istore_n 2, 1) := by decide +kernel
theorem dX12_sum_10 : decode cX12_sum 10 = .ok (.aload_n 0, 1) := by decide +kernel
theorem dX12_sum_11 : decode cX12_sum 11 = .ok (.bipush 43, 2) := by decide +kernel
theorem dX12_sum_13 : decode cX12_sum 13 = .ok (.invokevirtual 332, 3) := by decide +kernel
theorem dX12_sum_16 : decode cX12_sum 16 = .ok (.ifCond .ne 12, 3) := by decide +kernel
theorem dX12_sum_19 : decode cX12_sum 19 = .ok (.aload_n 0, 1) := by decide +kernel
theorem dX12_sum_20 : decode cX12_sum 20 = .ok (.bipush 45, 2) := by decide +kernel
theorem dX12_sum_22 : decode cX12_sum 22 = .ok (.invokevirtual 332, 3) := by decide +kernel
theorem dX12_sum_25 : decode cX12_sum 25 = .ok (.ifCond .eq 68, 3) := by decide +kernel
theorem dX12_sum_28 : decode cX12_sum 28 = .ok (.aload_n 0, 1) := by decide +kernel
theorem dX12_sum_29 : decode cX12_sum 29 = .ok (.getfield 43, 3) := by decide +kernel
theorem dX12_sum_32 : decode cX12_sum 32 = .ok (.aload_n 0, 1) := by decide +kernel
theorem dX12_sum_33 : decode cX12_sum 33 = .ok (.getfield 302, 3) := by decide +kernel
theorem dX12_sum_36 : decode cX12_sum 36 = .ok (.iaload, 1) := by decide +kernel
theorem dX12_sum_37 : decode cX12_sum 37 = .ok (.istore_n 3, 1) := by decide +kernel
theorem dX12_sum_38 : decode cX12_sum 38 = .ok (.aload_n 0, 1) := by decide +kernel
theorem dX12_sum_39 : decode cX12_sum 39 = .ok (.getfield 40, 3) := by decide +kernel
theorem dX12_sum_42 : decode cX12_sum 42 = .ok (.aload_n 0, 1) := by decide +kernel
theorem dX12_sum_43 : decode cX12_sum 43 = .ok (.getfield 302, 3) := by decide +kernel
theorem dX12_sum_46 : decode cX12_sum 46 = .ok (.iaload, 1) := by decide +kernel
theorem dX12_sum_47 : decode cX12_sum 47 = .ok (.bipush 43, 2) := by decide +kernel
theorem dX12_sum_49 : decode cX12_sum 49 = .ok (.if_icmp .ne 8, 3) := by decide +kernel
theorem dX12_sum_52 : decode cX12_sum 52 = .ok (.bipush 12, 2) := by decide +kernel
theorem dX12_sum_54 : decode cX12_sum 54 = .ok (.goto 5, 3) := by decide +kernel
theorem dX12_sum_57 : decode cX12_sum 57 = .ok (.bipush 13, 2) := by decide +kernel
theorem dX12_sum_59 : decode cX12_sum 59 = .ok (.istore 4, 2) := by decide +kernel
theorem dX12_sum_61 : decode cX12_sum 61 = .ok (.aload_n 0, 1) := by decide +kernel
theorem dX12_sum_62 : decode cX12_sum 62 = .ok (.dup, 1) := by decide +kernel
theorem dX12_sum_63 : decode cX12_sum 63 = .ok (.getfield 302, 3) := by decide +kernel
theorem dX12_sum_66 : decode cX12_sum 66 = .ok (.iconst 1, 1) := by decide +kernel
theorem dX12_sum_67 : decode cX12_sum 67 = .ok (.iadd, 1) := by decide +kernel
theorem dX12_sum_68 : decode cX12_sum 68 = .ok (.putfield 302, 3) := by decide +kernel
theorem dX12_sum_71 : decode cX12_sum 71 = .ok (.aload_n 0, 1) := by decide +kernel
theorem dX12_sum_72 : decode cX12_sum 72 = .ok (.invokevirtual 420, 3) := by decide +kernel
theorem dX12_sum_75 : decode cX12_sum 75 = .ok (.istore 5, 2) := by decide +kernel
theorem dX12_sum_77 : decode cX12_sum 77 = .ok (.aload_n 0, 1) := by decide +kernel
theorem dX12_sum_78 : decode cX12_sum 78 = .ok (.iload 4, 2) := by decide +kernel
theorem dX12_sum_80 : decode cX12_sum 80 = .ok (.iload_n 1, 1) := by decide +kernel
theorem dX12_sum_81 : decode cX12_sum 81 = .ok (.iload 5, 2) := by decide +kernel
theorem dX12_sum_83 : decode cX12_sum 83 = .ok (.iconst (-1), 1) := by decide +kernel
theorem dX12_sum_84 : decode cX12_sum 84 = .ok (.iload_n 2, 1) := by decide +kernel
theorem dX12_sum_85 : decode cX12_sum 85 = .ok (.iload_n 3, 1) := by decide +kernel
theorem dX12_sum_86 : decode cX12_sum 86 = .ok (.invokevirtual 389, 3) := by decide +kernel
theorem dX12_sum_89 : decode cX12_sum 89 = .ok (.istore_n 1, 1) := by decide +kernel
theorem dX12_sum_90 : decode cX12_sum 90 = .ok (.goto (-80), 3) := by decide +kernel
theorem dX12_sum_93 : decode cX12_sum 93 = .ok (.aload_n 0, 1) := by decide +kernel
theorem dX12_sum_94 : decode cX12_sum 94 = .ok (.iload_n 2, 1) := by decide +kernel
theorem dX12_sum_95 : decode cX12_sum 95 = .ok (.putfield 384, 3) := by decide +kernel
theorem dX12_sum_98 : decode cX12_sum 98 = .ok (.iload_n 1, 1) := by decide +kernel
theorem dX12_sum_99 : decode cX12_sum 99 = .ok (.ireturn, 1) := by decide +kernel
def m_sum_b59 (F : Nat) (T : TG_expr) (rc10 : RS → Int32 → Int32 → Option (RS × Int32)) (cs1 : RS) (u1 : Int32) (u2 : Int32) (u3 : Int32) (y0 : Int32) : Option (RS × Int32) := Option.bind (T.2.2.2.2.2.1 (setF cs1 18 ((cs1.1 18) + 1)) ) fun z_1 => Option.bind (m_make F z_1.1 y0 u1 z_1.2 (-1) u2 u3) fun z_2 => rc10 z_2.1 z_2.2 u2
def m_sum_b28 (F : Nat) (T : TG_expr) (rc10 : RS → Int32 → Int32 → Option (RS × Int32)) (cs1 : RS) (u1 : Int32) (u2 : Int32) : Option (RS × Int32) := Option.bind (rdI (cs1.2.2.1 15) 2001 (cs1.1 18)) fun v_3 => Option.bind (rdI (cs1.2.2.1 14) 2001 (cs1.1 18)) fun v_4 => if v_4 = 43 then (m_sum_b59 F T rc10 cs1 u1 u2 v_3 12) else (m_sum_b59 F T rc10 cs1 u1 u2 v_3 13)
def m_sum_L10 (F : Nat) (T : TG_expr) : Nat → RS → Int32 → Int32 → Option (RS × Int32)
  | 0, _, _, _ => none
  | lf_10 + 1, cs1, u1, u2 => Option.bind (m_isSign F cs1 43) fun v_6 => if v_6 = 0 then (Option.bind (m_isSign F cs1 45) fun v_8 => if v_8 = 0 then (some (setF cs1 74 u2, u1)) else (m_sum_b28 F T (m_sum_L10 F T lf_10) cs1 u1 u2)) else (m_sum_b28 F T (m_sum_L10 F T lf_10) cs1 u1 u2)
def b_sum (F : Nat) (T : TG_expr) (cs : RS) : Option (RS × Int32) := Option.bind (T.2.2.2.2.2.1 cs ) fun z_10 => m_sum_L10 F T F z_10.1 z_10.2 (z_10.1.1 74)
theorem dX12_part_0 : decode cX12_part 0 = .ok (.aload_n 0, 1) := by decide +kernel
theorem dX12_part_1 : decode cX12_part 1 = .ok (.invokevirtual 423, 3) := by decide +kernel
theorem dX12_part_4 : decode cX12_part 4 = .ok (.istore_n 1, 1) := by decide +kernel
theorem dX12_part_5 : decode cX12_part 5 = .ok (.aload_n 0, 1) := by decide +kernel
theorem dX12_part_6 : decode cX12_part 6 = .ok (.getfield 384, 3) := by decide +kernel
theorem dX12_part_9 : decode cX12_part 9 = .ok (.istore_n 2, 1) := by decide +kernel
theorem dX12_part_10 : decode cX12_part 10 = .ok (.aload_n 0, 1) := by decide +kernel
theorem dX12_part_11 : decode cX12_part 11 = .ok (.bipush 42, 2) := by decide +kernel
theorem dX12_part_13 : decode cX12_part 13 = .ok (.invokevirtual 332, 3) := by decide +kernel
theorem dX12_part_16 : decode cX12_part 16 = .ok (.ifCond .ne 21, 3) := by decide +kernel
theorem dX12_part_19 : decode cX12_part 19 = .ok (.aload_n 0, 1) := by decide +kernel
theorem dX12_part_20 : decode cX12_part 20 = .ok (.bipush 47, 2) := by decide +kernel
theorem dX12_part_22 : decode cX12_part 22 = .ok (.invokevirtual 332, 3) := by decide +kernel
theorem dX12_part_25 : decode cX12_part 25 = .ok (.ifCond .ne 12, 3) := by decide +kernel
theorem dX12_part_28 : decode cX12_part 28 = .ok (.aload_n 0, 1) := by decide +kernel
theorem dX12_part_29 : decode cX12_part 29 = .ok (.bipush 37, 2) := by decide +kernel
theorem dX12_part_31 : decode cX12_part 31 = .ok (.invokevirtual 332, 3) := by decide +kernel
theorem dX12_part_34 : decode cX12_part 34 = .ok (.ifCond .eq 87, 3) := by decide +kernel
theorem dX12_part_37 : decode cX12_part 37 = .ok (.aload_n 0, 1) := by decide +kernel
theorem dX12_part_38 : decode cX12_part 38 = .ok (.getfield 43, 3) := by decide +kernel
theorem dX12_part_41 : decode cX12_part 41 = .ok (.aload_n 0, 1) := by decide +kernel
theorem dX12_part_42 : decode cX12_part 42 = .ok (.getfield 302, 3) := by decide +kernel
theorem dX12_part_45 : decode cX12_part 45 = .ok (.iaload, 1) := by decide +kernel
theorem dX12_part_46 : decode cX12_part 46 = .ok (.istore_n 3, 1) := by decide +kernel
theorem dX12_part_47 : decode cX12_part 47 = .ok (.aload_n 0, 1) := by decide +kernel
theorem dX12_part_48 : decode cX12_part 48 = .ok (.getfield 40, 3) := by decide +kernel
theorem dX12_part_51 : decode cX12_part 51 = .ok (.aload_n 0, 1) := by decide +kernel
theorem dX12_part_52 : decode cX12_part 52 = .ok (.getfield 302, 3) := by decide +kernel
theorem dX12_part_55 : decode cX12_part 55 = .ok (.iaload, 1) := by decide +kernel
theorem dX12_part_56 : decode cX12_part 56 = .ok (.bipush 42, 2) := by decide +kernel
theorem dX12_part_58 : decode cX12_part 58 = .ok (.if_icmp .ne 8, 3) := by decide +kernel
theorem dX12_part_61 : decode cX12_part 61 = .ok (.bipush 14, 2) := by decide +kernel
theorem dX12_part_63 : decode cX12_part 63 = .ok (.goto 24, 3) := by decide +kernel
theorem dX12_part_66 : decode cX12_part 66 = .ok (.aload_n 0, 1) := by decide +kernel
theorem dX12_part_67 : decode cX12_part 67 = .ok (.getfield 40, 3) := by decide +kernel
theorem dX12_part_70 : decode cX12_part 70 = .ok (.aload_n 0, 1) := by decide +kernel
theorem dX12_part_71 : decode cX12_part 71 = .ok (.getfield 302, 3) := by decide +kernel
theorem dX12_part_74 : decode cX12_part 74 = .ok (.iaload, 1) := by decide +kernel
theorem dX12_part_75 : decode cX12_part 75 = .ok (.bipush 47, 2) := by decide +kernel
theorem dX12_part_77 : decode cX12_part 77 = .ok (.if_icmp .ne 8, 3) := by decide +kernel
theorem dX12_part_80 : decode cX12_part 80 = .ok (.bipush 15, 2) := by decide +kernel
theorem dX12_part_82 : decode cX12_part 82 = .ok (.goto 5, 3) := by decide +kernel
theorem dX12_part_85 : decode cX12_part 85 = .ok (.bipush 16, 2) := by decide +kernel
theorem dX12_part_87 : decode cX12_part 87 = .ok (.istore 4, 2) := by decide +kernel
theorem dX12_part_89 : decode cX12_part 89 = .ok (.aload_n 0, 1) := by decide +kernel
theorem dX12_part_90 : decode cX12_part 90 = .ok (.dup, 1) := by decide +kernel
theorem dX12_part_91 : decode cX12_part 91 = .ok (.getfield 302, 3) := by decide +kernel
theorem dX12_part_94 : decode cX12_part 94 = .ok (.iconst 1, 1) := by decide +kernel
theorem dX12_part_95 : decode cX12_part 95 = .ok (.iadd, 1) := by decide +kernel
theorem dX12_part_96 : decode cX12_part 96 = .ok (.putfield 302, 3) := by decide +kernel
theorem dX12_part_99 : decode cX12_part 99 = .ok (.aload_n 0, 1) := by decide +kernel
theorem dX12_part_100 : decode cX12_part 100 = .ok (.invokevirtual 423, 3) := by decide +kernel
theorem dX12_part_103 : decode cX12_part 103 = .ok (.istore 5, 2) := by decide +kernel
theorem dX12_part_105 : decode cX12_part 105 = .ok (.aload_n 0, 1) := by decide +kernel
theorem dX12_part_106 : decode cX12_part 106 = .ok (.iload 4, 2) := by decide +kernel
theorem dX12_part_108 : decode cX12_part 108 = .ok (.iload_n 1, 1) := by decide +kernel
theorem dX12_part_109 : decode cX12_part 109 = .ok (.iload 5, 2) := by decide +kernel
theorem dX12_part_111 : decode cX12_part 111 = .ok (.iconst (-1), 1) := by decide +kernel
theorem dX12_part_112 : decode cX12_part 112 = .ok (.iload_n 2, 1) := by decide +kernel
theorem dX12_part_113 : decode cX12_part 113 = .ok (.iload_n 3, 1) := by decide +kernel
theorem dX12_part_114 : decode cX12_part 114 = .ok (.invokevirtual 389, 3) := by decide +kernel
theorem dX12_part_117 : decode cX12_part 117 = .ok (.istore_n 1, 1) := by decide +kernel
theorem dX12_part_118 : decode cX12_part 118 = .ok (.goto (-108), 3) := by decide +kernel
theorem dX12_part_121 : decode cX12_part 121 = .ok (.aload_n 0, 1) := by decide +kernel
theorem dX12_part_122 : decode cX12_part 122 = .ok (.iload_n 2, 1) := by decide +kernel
theorem dX12_part_123 : decode cX12_part 123 = .ok (.putfield 384, 3) := by decide +kernel
theorem dX12_part_126 : decode cX12_part 126 = .ok (.iload_n 1, 1) := by decide +kernel
theorem dX12_part_127 : decode cX12_part 127 = .ok (.ireturn, 1) := by decide +kernel
def m_part_b87 (F : Nat) (T : TG_expr) (rc10 : RS → Int32 → Int32 → Option (RS × Int32)) (cs1 : RS) (u1 : Int32) (u2 : Int32) (u3 : Int32) (y0 : Int32) : Option (RS × Int32) := Option.bind (T.2.2.2.2.2.2.1 (setF cs1 18 ((cs1.1 18) + 1)) ) fun z_1 => Option.bind (m_make F z_1.1 y0 u1 z_1.2 (-1) u2 u3) fun z_2 => rc10 z_2.1 z_2.2 u2
def m_part_b37 (F : Nat) (T : TG_expr) (rc10 : RS → Int32 → Int32 → Option (RS × Int32)) (cs1 : RS) (u1 : Int32) (u2 : Int32) : Option (RS × Int32) := Option.bind (rdI (cs1.2.2.1 15) 2001 (cs1.1 18)) fun v_3 => Option.bind (rdI (cs1.2.2.1 14) 2001 (cs1.1 18)) fun v_4 => if v_4 = 42 then (m_part_b87 F T rc10 cs1 u1 u2 v_3 14) else (Option.bind (rdI (cs1.2.2.1 14) 2001 (cs1.1 18)) fun v_6 => if v_6 = 47 then (m_part_b87 F T rc10 cs1 u1 u2 v_3 15) else (m_part_b87 F T rc10 cs1 u1 u2 v_3 16))
def m_part_L10 (F : Nat) (T : TG_expr) : Nat → RS → Int32 → Int32 → Option (RS × Int32)
  | 0, _, _, _ => none
  | lf_10 + 1, cs1, u1, u2 => Option.bind (m_isSign F cs1 42) fun v_8 => if v_8 = 0 then (Option.bind (m_isSign F cs1 47) fun v_10 => if v_10 = 0 then (Option.bind (m_isSign F cs1 37) fun v_12 => if v_12 = 0 then (some (setF cs1 74 u2, u1)) else (m_part_b37 F T (m_part_L10 F T lf_10) cs1 u1 u2)) else (m_part_b37 F T (m_part_L10 F T lf_10) cs1 u1 u2)) else (m_part_b37 F T (m_part_L10 F T lf_10) cs1 u1 u2)
def b_part (F : Nat) (T : TG_expr) (cs : RS) : Option (RS × Int32) := Option.bind (T.2.2.2.2.2.2.1 cs ) fun z_14 => m_part_L10 F T F z_14.1 z_14.2 (z_14.1.1 74)
theorem dX12_sign_0 : decode cX12_sign 0 = .ok (.aload_n 0, 1) := by decide +kernel
theorem dX12_sign_1 : decode cX12_sign 1 = .ok (.bipush 45, 2) := by decide +kernel
theorem dX12_sign_3 : decode cX12_sign 3 = .ok (.invokevirtual 332, 3) := by decide +kernel
theorem dX12_sign_6 : decode cX12_sign 6 = .ok (.ifCond .ne 8, 3) := by decide +kernel
theorem dX12_sign_9 : decode cX12_sign 9 = .ok (.aload_n 0, 1) := by decide +kernel
theorem dX12_sign_10 : decode cX12_sign 10 = .ok (.invokevirtual 426, 3) := by decide +kernel
theorem dX12_sign_13 : decode cX12_sign 13 = .ok (.ireturn, 1) := by decide +kernel
theorem dX12_sign_14 : decode cX12_sign 14 = .ok (.aload_n 0, 1) := by decide +kernel
theorem dX12_sign_15 : decode cX12_sign 15 = .ok (.getfield 43, 3) := by decide +kernel
theorem dX12_sign_18 : decode cX12_sign 18 = .ok (.aload_n 0, 1) := by decide +kernel
theorem dX12_sign_19 : decode cX12_sign 19 = .ok (.getfield 302, 3) := by decide +kernel
theorem dX12_sign_22 : decode cX12_sign 22 = .ok (.iaload, 1) := by decide +kernel
theorem dX12_sign_23 : decode cX12_sign 23 = .ok (.istore_n 1, 1) := by decide +kernel
theorem dX12_sign_24 : decode cX12_sign 24 = .ok (.aload_n 0, 1) := by decide +kernel
theorem dX12_sign_25 : decode cX12_sign 25 = .ok (.iload_n 1, 1) := by decide +kernel
theorem dX12_sign_26 : decode cX12_sign 26 = .ok (.invokevirtual 401, 3) := by decide +kernel
theorem dX12_sign_29 : decode cX12_sign 29 = .ok (.aload_n 0, 1) := by decide +kernel
theorem dX12_sign_30 : decode cX12_sign 30 = .ok (.dup, 1) := by decide +kernel
theorem dX12_sign_31 : decode cX12_sign 31 = .ok (.getfield 302, 3) := by decide +kernel
theorem dX12_sign_34 : decode cX12_sign 34 = .ok (.iconst 1, 1) := by decide +kernel
theorem dX12_sign_35 : decode cX12_sign 35 = .ok (.iadd, 1) := by decide +kernel
theorem dX12_sign_36 : decode cX12_sign 36 = .ok (.putfield 302, 3) := by decide +kernel
theorem dX12_sign_39 : decode cX12_sign 39 = .ok (.aload_n 0, 1) := by decide +kernel
theorem dX12_sign_40 : decode cX12_sign 40 = .ok (.getfield 292, 3) := by decide +kernel
theorem dX12_sign_43 : decode cX12_sign 43 = .ok (.ifCond .eq 10, 3) := by decide +kernel
theorem dX12_sign_46 : decode cX12_sign 46 = .ok (.aload_n 0, 1) := by decide +kernel
theorem dX12_sign_47 : decode cX12_sign 47 = .ok (.invokevirtual 423, 3) := by decide +kernel
theorem dX12_sign_50 : decode cX12_sign 50 = .ok (.goto 4, 3) := by decide +kernel
theorem dX12_sign_53 : decode cX12_sign 53 = .ok (.iconst 0, 1) := by decide +kernel
theorem dX12_sign_54 : decode cX12_sign 54 = .ok (.istore_n 2, 1) := by decide +kernel
theorem dX12_sign_55 : decode cX12_sign 55 = .ok (.aload_n 0, 1) := by decide +kernel
theorem dX12_sign_56 : decode cX12_sign 56 = .ok (.dup, 1) := by decide +kernel
theorem dX12_sign_57 : decode cX12_sign 57 = .ok (.getfield 347, 3) := by decide +kernel
theorem dX12_sign_60 : decode cX12_sign 60 = .ok (.iconst 1, 1) := by decide +kernel
theorem dX12_sign_61 : decode cX12_sign 61 = .ok (.isub, 1) := by decide +kernel
theorem dX12_sign_62 : decode cX12_sign 62 = .ok (.putfield 347, 3) := by decide +kernel
theorem dX12_sign_65 : decode cX12_sign 65 = .ok (.aload_n 0, 1) := by decide +kernel
theorem dX12_sign_66 : decode cX12_sign 66 = .ok (.bipush 17, 2) := by decide +kernel
theorem dX12_sign_68 : decode cX12_sign 68 = .ok (.iload_n 2, 1) := by decide +kernel
theorem dX12_sign_69 : decode cX12_sign 69 = .ok (.iconst (-1), 1) := by decide +kernel
theorem dX12_sign_70 : decode cX12_sign 70 = .ok (.iconst (-1), 1) := by decide +kernel
theorem dX12_sign_71 : decode cX12_sign 71 = .ok (.iload_n 1, 1) := by decide +kernel
theorem dX12_sign_72 : decode cX12_sign 72 = .ok (.iload_n 1, 1) := by decide +kernel
theorem dX12_sign_73 : decode cX12_sign 73 = .ok (.invokevirtual 389, 3) := by decide +kernel
theorem dX12_sign_76 : decode cX12_sign 76 = .ok (.istore_n 2, 1) := by decide +kernel
theorem dX12_sign_77 : decode cX12_sign 77 = .ok (.aload_n 0, 1) := by decide +kernel
theorem dX12_sign_78 : decode cX12_sign 78 = .ok (.iload_n 1, 1) := by decide +kernel
theorem dX12_sign_79 : decode cX12_sign 79 = .ok (.putfield 384, 3) := by decide +kernel
theorem dX12_sign_82 : decode cX12_sign 82 = .ok (.iload_n 2, 1) := by decide +kernel
theorem dX12_sign_83 : decode cX12_sign 83 = .ok (.ireturn, 1) := by decide +kernel
def m_sign_b54 (F : Nat) (T : TG_expr) (cs1 : RS) (u1 : Int32) (y0 : Int32) : Option (RS × Int32) := Option.bind (m_make F (setF cs1 70 ((cs1.1 70) - 1)) 17 y0 (-1) (-1) u1 u1) fun z_1 => some (setF z_1.1 74 u1, z_1.2)
def b_sign (F : Nat) (T : TG_expr) (cs : RS) : Option (RS × Int32) := Option.bind (m_isSign F cs 45) fun v_2 => if v_2 = 0 then (Option.bind (T.2.2.2.2.2.2.2.1 cs ) fun z_8 => some (z_8.1, z_8.2)) else (Option.bind (rdI (cs.2.2.1 15) 2001 (cs.1 18)) fun v_4 => Option.bind (m_deeper F cs v_4) fun cs_5 => if ((setF cs_5 18 ((cs_5.1 18) + 1)).1 21) = 0 then (m_sign_b54 F T (setF cs_5 18 ((cs_5.1 18) + 1)) v_4 0) else (Option.bind (T.2.2.2.2.2.2.1 (setF cs_5 18 ((cs_5.1 18) + 1)) ) fun z_7 => m_sign_b54 F T z_7.1 v_4 z_7.2))
theorem dX12_one_0 : decode cX12_one 0 = .ok (.aload_n 0, 1) := by decide +kernel
theorem dX12_one_1 : decode cX12_one 1 = .ok (.getfield 43, 3) := by decide +kernel
theorem dX12_one_4 : decode cX12_one 4 = .ok (.aload_n 0, 1) := by decide +kernel
theorem dX12_one_5 : decode cX12_one 5 = .ok (.getfield 302, 3) := by decide +kernel
theorem dX12_one_8 : decode cX12_one 8 = .ok (.iaload, 1) := by decide +kernel
theorem dX12_one_9 : decode cX12_one 9 = .ok (.istore_n 1, 1) := by decide +kernel
theorem dX12_one_10 : decode cX12_one 10 = .ok (.iconst 0, 1) := by decide +kernel
theorem dX12_one_11 : decode cX12_one 11 = .ok (.istore_n 2, 1) := by decide +kernel
theorem dX12_one_12 : decode cX12_one 12 = .ok (.aload_n 0, 1) := by decide +kernel
theorem dX12_one_13 : decode cX12_one 13 = .ok (.getfield 292, 3) := by decide +kernel
theorem dX12_one_16 : decode cX12_one 16 = .ok (.ifCond .ne 5, 3) := by decide +kernel
theorem dX12_one_19 : decode cX12_one 19 = .ok (.iconst 0, 1) := by decide +kernel
theorem dX12_one_20 : decode cX12_one 20 = .ok (.ireturn, 1) := by decide +kernel
theorem dX12_one_21 : decode cX12_one 21 = .ok (.aload_n 0, 1) := by decide +kernel
theorem dX12_one_22 : decode cX12_one 22 = .ok (.getfield 40, 3) := by decide +kernel
theorem dX12_one_25 : decode cX12_one 25 = .ok (.aload_n 0, 1) := by decide +kernel
theorem dX12_one_26 : decode cX12_one 26 = .ok (.getfield 302, 3) := by decide +kernel
theorem dX12_one_29 : decode cX12_one 29 = .ok (.iaload, 1) := by decide +kernel
theorem dX12_one_30 : decode cX12_one 30 = .ok (.iconst 2, 1) := by decide +kernel
theorem dX12_one_31 : decode cX12_one 31 = .ok (.if_icmp .ne 44, 3) := by decide +kernel
theorem dX12_one_34 : decode cX12_one 34 = .ok (.aload_n 0, 1) := by decide +kernel
theorem dX12_one_35 : decode cX12_one 35 = .ok (.getfield 49, 3) := by decide +kernel
theorem dX12_one_38 : decode cX12_one 38 = .ok (.aload_n 0, 1) := by decide +kernel
theorem dX12_one_39 : decode cX12_one 39 = .ok (.getfield 302, 3) := by decide +kernel
theorem dX12_one_42 : decode cX12_one 42 = .ok (.laload, 1) := by decide +kernel
theorem dX12_one_43 : decode cX12_one 43 = .ok (.lstore_n 3, 1) := by decide +kernel
theorem dX12_one_44 : decode cX12_one 44 = .ok (.aload_n 0, 1) := by decide +kernel
theorem dX12_one_45 : decode cX12_one 45 = .ok (.dup, 1) := by decide +kernel
theorem dX12_one_46 : decode cX12_one 46 = .ok (.getfield 302, 3) := by decide +kernel
theorem dX12_one_49 : decode cX12_one 49 = .ok (.iconst 1, 1) := by decide +kernel
theorem dX12_one_50 : decode cX12_one 50 = .ok (.iadd, 1) := by decide +kernel
theorem dX12_one_51 : decode cX12_one 51 = .ok (.putfield 302, 3) := by decide +kernel
theorem dX12_one_54 : decode cX12_one 54 = .ok (.aload_n 0, 1) := by decide +kernel
theorem dX12_one_55 : decode cX12_one 55 = .ok (.iconst 1, 1) := by decide +kernel
theorem dX12_one_56 : decode cX12_one 56 = .ok (.iconst (-1), 1) := by decide +kernel
theorem dX12_one_57 : decode cX12_one 57 = .ok (.iconst (-1), 1) := by decide +kernel
theorem dX12_one_58 : decode cX12_one 58 = .ok (.iconst (-1), 1) := by decide +kernel
theorem dX12_one_59 : decode cX12_one 59 = .ok (.iload_n 1, 1) := by decide +kernel
theorem dX12_one_60 : decode cX12_one 60 = .ok (.iload_n 1, 1) := by decide +kernel
theorem dX12_one_61 : decode cX12_one 61 = .ok (.invokevirtual 389, 3) := by decide +kernel
theorem dX12_one_64 : decode cX12_one 64 = .ok (.istore_n 2, 1) := by decide +kernel
theorem dX12_one_65 : decode cX12_one 65 = .ok (.aload_n 0, 1) := by decide +kernel
theorem dX12_one_66 : decode cX12_one 66 = .ok (.getfield 67, 3) := by decide +kernel
theorem dX12_one_69 : decode cX12_one 69 = .ok (.iload_n 2, 1) := by decide +kernel
theorem dX12_one_70 : decode cX12_one 70 = .ok (.lload_n 3, 1) := by decide +kernel
theorem dX12_one_71 : decode cX12_one 71 = .ok (.lastore, 1) := by decide +kernel
theorem dX12_one_72 : decode cX12_one 72 = .ok (.goto 421, 3) := by decide +kernel
theorem dX12_one_75 : decode cX12_one 75 = .ok (.aload_n 0, 1) := by decide +kernel
theorem dX12_one_76 : decode cX12_one 76 = .ok (.ldc_w 364, 3) := by decide +kernel
theorem dX12_one_79 : decode cX12_one 79 = .ok (.invokevirtual 326, 3) := by decide +kernel
theorem dX12_one_82 : decode cX12_one 82 = .ok (.ifCond .eq 17, 3) := by decide +kernel
theorem dX12_one_85 : decode cX12_one 85 = .ok (.aload_n 0, 1) := by decide +kernel
theorem dX12_one_86 : decode cX12_one 86 = .ok (.iconst 2, 1) := by decide +kernel
theorem dX12_one_87 : decode cX12_one 87 = .ok (.iconst (-1), 1) := by decide +kernel
theorem dX12_one_88 : decode cX12_one 88 = .ok (.iconst (-1), 1) := by decide +kernel
theorem dX12_one_89 : decode cX12_one 89 = .ok (.iconst (-1), 1) := by decide +kernel
theorem dX12_one_90 : decode cX12_one 90 = .ok (.iload_n 1, 1) := by decide +kernel
theorem dX12_one_91 : decode cX12_one 91 = .ok (.iload_n 1, 1) := by decide +kernel
theorem dX12_one_92 : decode cX12_one 92 = .ok (.invokevirtual 389, 3) := by decide +kernel
theorem dX12_one_95 : decode cX12_one 95 = .ok (.istore_n 2, 1) := by decide +kernel
theorem dX12_one_96 : decode cX12_one 96 = .ok (.goto 397, 3) := by decide +kernel
theorem dX12_one_99 : decode cX12_one 99 = .ok (.aload_n 0, 1) := by decide +kernel
theorem dX12_one_100 : decode cX12_one 100 = .ok (.ldc_w 366, 3) := by decide +kernel
theorem dX12_one_103 : decode cX12_one 103 = .ok (.invokevirtual 326, 3) := by decide +kernel
theorem dX12_one_106 : decode cX12_one 106 = .ok (.ifCond .eq 17, 3) := by decide +kernel
theorem dX12_one_109 : decode cX12_one 109 = .ok (.aload_n 0, 1) := by decide +kernel
theorem dX12_one_110 : decode cX12_one 110 = .ok (.iconst 3, 1) := by decide +kernel
theorem dX12_one_111 : decode cX12_one 111 = .ok (.iconst (-1), 1) := by decide +kernel
theorem dX12_one_112 : decode cX12_one 112 = .ok (.iconst (-1), 1) := by decide +kernel
theorem dX12_one_113 : decode cX12_one 113 = .ok (.iconst (-1), 1) := by decide +kernel
theorem dX12_one_114 : decode cX12_one 114 = .ok (.iload_n 1, 1) := by decide +kernel
theorem dX12_one_115 : decode cX12_one 115 = .ok (.iload_n 1, 1) := by decide +kernel
theorem dX12_one_116 : decode cX12_one 116 = .ok (.invokevirtual 389, 3) := by decide +kernel
theorem dX12_one_119 : decode cX12_one 119 = .ok (.istore_n 2, 1) := by decide +kernel
theorem dX12_one_120 : decode cX12_one 120 = .ok (.goto 373, 3) := by decide +kernel
theorem dX12_one_123 : decode cX12_one 123 = .ok (.aload_n 0, 1) := by decide +kernel
theorem dX12_one_124 : decode cX12_one 124 = .ok (.ldc_w 368, 3) := by decide +kernel
theorem dX12_one_127 : decode cX12_one 127 = .ok (.invokevirtual 326, 3) := by decide +kernel
theorem dX12_one_130 : decode cX12_one 130 = .ok (.ifCond .eq 17, 3) := by decide +kernel
theorem dX12_one_133 : decode cX12_one 133 = .ok (.aload_n 0, 1) := by decide +kernel
theorem dX12_one_134 : decode cX12_one 134 = .ok (.iconst 4, 1) := by decide +kernel
theorem dX12_one_135 : decode cX12_one 135 = .ok (.iconst (-1), 1) := by decide +kernel
theorem dX12_one_136 : decode cX12_one 136 = .ok (.iconst (-1), 1) := by decide +kernel
theorem dX12_one_137 : decode cX12_one 137 = .ok (.iconst (-1), 1) := by decide +kernel
theorem dX12_one_138 : decode cX12_one 138 = .ok (.iload_n 1, 1) := by decide +kernel
theorem dX12_one_139 : decode cX12_one 139 = .ok (.iload_n 1, 1) := by decide +kernel
theorem dX12_one_140 : decode cX12_one 140 = .ok (.invokevirtual 389, 3) := by decide +kernel
theorem dX12_one_143 : decode cX12_one 143 = .ok (.istore_n 2, 1) := by decide +kernel
theorem dX12_one_144 : decode cX12_one 144 = .ok (.goto 349, 3) := by decide +kernel
theorem dX12_one_147 : decode cX12_one 147 = .ok (.aload_n 0, 1) := by decide +kernel
theorem dX12_one_148 : decode cX12_one 148 = .ok (.bipush 40, 2) := by decide +kernel
theorem dX12_one_150 : decode cX12_one 150 = .ok (.invokevirtual 332, 3) := by decide +kernel
theorem dX12_one_153 : decode cX12_one 153 = .ok (.ifCond .eq 53, 3) := by decide +kernel
theorem dX12_one_156 : decode cX12_one 156 = .ok (.aload_n 0, 1) := by decide +kernel
theorem dX12_one_157 : decode cX12_one 157 = .ok (.iload_n 1, 1) := by decide +kernel
theorem dX12_one_158 : decode cX12_one 158 = .ok (.invokevirtual 401, 3) := by decide +kernel
theorem dX12_one_161 : decode cX12_one 161 = .ok (.aload_n 0, 1) := by decide +kernel
theorem dX12_one_162 : decode cX12_one 162 = .ok (.dup, 1) := by decide +kernel
theorem dX12_one_163 : decode cX12_one 163 = .ok (.getfield 302, 3) := by decide +kernel
theorem dX12_one_166 : decode cX12_one 166 = .ok (.iconst 1, 1) := by decide +kernel
theorem dX12_one_167 : decode cX12_one 167 = .ok (.iadd, 1) := by decide +kernel
theorem dX12_one_168 : decode cX12_one 168 = .ok (.putfield 302, 3) := by decide +kernel
theorem dX12_one_171 : decode cX12_one 171 = .ok (.aload_n 0, 1) := by decide +kernel
theorem dX12_one_172 : decode cX12_one 172 = .ok (.getfield 292, 3) := by decide +kernel
theorem dX12_one_175 : decode cX12_one 175 = .ok (.ifCond .eq 10, 3) := by decide +kernel
theorem dX12_one_178 : decode cX12_one 178 = .ok (.aload_n 0, 1) := by decide +kernel
theorem dX12_one_179 : decode cX12_one 179 = .ok (.invokevirtual 429, 3) := by decide +kernel
theorem dX12_one_182 : decode cX12_one 182 = .ok (.goto 4, 3) := by decide +kernel
theorem dX12_one_185 : decode cX12_one 185 = .ok (.iconst 0, 1) := by decide +kernel
theorem dX12_one_186 : decode cX12_one 186 = .ok (.istore_n 2, 1) := by decide +kernel
theorem dX12_one_187 : decode cX12_one 187 = .ok (.aload_n 0, 1) := by decide +kernel
theorem dX12_one_188 : decode cX12_one 188 = .ok (.dup, 1) := by decide +kernel
theorem dX12_one_189 : decode cX12_one 189 = .ok (.getfield 347, 3) := by decide +kernel
theorem dX12_one_192 : decode cX12_one 192 = .ok (.iconst 1, 1) := by decide +kernel
theorem dX12_one_193 : decode cX12_one 193 = .ok (.isub, 1) := by decide +kernel
theorem dX12_one_194 : decode cX12_one 194 = .ok (.putfield 347, 3) := by decide +kernel
theorem dX12_one_197 : decode cX12_one 197 = .ok (.aload_n 0, 1) := by decide +kernel
theorem dX12_one_198 : decode cX12_one 198 = .ok (.bipush 41, 2) := by decide +kernel
theorem dX12_one_200 : decode cX12_one 200 = .ok (.invokevirtual 414, 3) := by decide +kernel
theorem dX12_one_203 : decode cX12_one 203 = .ok (.goto 290, 3) := by decide +kernel
theorem dX12_one_206 : decode cX12_one 206 = .ok (.aload_n 0, 1) := by decide +kernel
theorem dX12_one_207 : decode cX12_one 207 = .ok (.ldc_w 370, 3) := by decide +kernel
theorem dX12_one_210 : decode cX12_one 210 = .ok (.invokevirtual 322, 3) := by decide +kernel
theorem dX12_one_213 : decode cX12_one 213 = .ok (.ifCond .eq 123, 3) := by decide +kernel
theorem dX12_one_216 : decode cX12_one 216 = .ok (.aload_n 0, 1) := by decide +kernel
theorem dX12_one_217 : decode cX12_one 217 = .ok (.iload_n 1, 1) := by decide +kernel
theorem dX12_one_218 : decode cX12_one 218 = .ok (.invokevirtual 401, 3) := by decide +kernel
theorem dX12_one_221 : decode cX12_one 221 = .ok (.aload_n 0, 1) := by decide +kernel
theorem dX12_one_222 : decode cX12_one 222 = .ok (.dup, 1) := by decide +kernel
theorem dX12_one_223 : decode cX12_one 223 = .ok (.getfield 302, 3) := by decide +kernel
theorem dX12_one_226 : decode cX12_one 226 = .ok (.iconst 1, 1) := by decide +kernel
theorem dX12_one_227 : decode cX12_one 227 = .ok (.iadd, 1) := by decide +kernel
theorem dX12_one_228 : decode cX12_one 228 = .ok (.putfield 302, 3) := by decide +kernel
theorem dX12_one_231 : decode cX12_one 231 = .ok (.aload_n 0, 1) := by decide +kernel
theorem dX12_one_232 : decode cX12_one 232 = .ok (.ldc_w 432, 3) := by decide +kernel
theorem dX12_one_235 : decode cX12_one 235 = .ok (.invokevirtual 408, 3) := by decide +kernel
theorem dX12_one_238 : decode cX12_one 238 = .ok (.aload_n 0, 1) := by decide +kernel
theorem dX12_one_239 : decode cX12_one 239 = .ok (.getfield 292, 3) := by decide +kernel
theorem dX12_one_242 : decode cX12_one 242 = .ok (.ifCond .eq 10, 3) := by decide +kernel
theorem dX12_one_245 : decode cX12_one 245 = .ok (.aload_n 0, 1) := by decide +kernel
theorem dX12_one_246 : decode cX12_one 246 = .ok (.invokevirtual 429, 3) := by decide +kernel
theorem dX12_one_249 : decode cX12_one 249 = .ok (.goto 4, 3) := by decide +kernel
theorem dX12_one_252 : decode cX12_one 252 = .ok (.iconst 0, 1) := by decide +kernel
theorem dX12_one_253 : decode cX12_one 253 = .ok (.istore_n 3, 1) := by decide +kernel
theorem dX12_one_254 : decode cX12_one 254 = .ok (.aload_n 0, 1) := by decide +kernel
theorem dX12_one_255 : decode cX12_one 255 = .ok (.ldc_w 434, 3) := by decide +kernel
theorem dX12_one_258 : decode cX12_one 258 = .ok (.invokevirtual 408, 3) := by decide +kernel
theorem dX12_one_261 : decode cX12_one 261 = .ok (.aload_n 0, 1) := by decide +kernel
theorem dX12_one_262 : decode cX12_one 262 = .ok (.getfield 292, 3) := by decide +kernel
theorem dX12_one_265 : decode cX12_one 265 = .ok (.ifCond .eq 10, 3) := by decide +kernel
theorem dX12_one_268 : decode cX12_one 268 = .ok (.aload_n 0, 1) := by decide +kernel
theorem dX12_one_269 : decode cX12_one 269 = .ok (.invokevirtual 429, 3) := by decide +kernel
theorem dX12_one_272 : decode cX12_one 272 = .ok (.goto 4, 3) := by decide +kernel
theorem dX12_one_275 : decode cX12_one 275 = .ok (.iconst 0, 1) := by decide +kernel
theorem dX12_one_276 : decode cX12_one 276 = .ok (.istore 4, 2) := by decide +kernel
theorem dX12_one_278 : decode cX12_one 278 = .ok (.aload_n 0, 1) := by decide +kernel
theorem dX12_one_279 : decode cX12_one 279 = .ok (.ldc_w 436, 3) := by decide +kernel
theorem dX12_one_282 : decode cX12_one 282 = .ok (.invokevirtual 408, 3) := by decide +kernel
theorem dX12_one_285 : decode cX12_one 285 = .ok (.aload_n 0, 1) := by decide +kernel
theorem dX12_one_286 : decode cX12_one 286 = .ok (.getfield 292, 3) := by decide +kernel
theorem dX12_one_289 : decode cX12_one 289 = .ok (.ifCond .eq 10, 3) := by decide +kernel
theorem dX12_one_292 : decode cX12_one 292 = .ok (.aload_n 0, 1) := by decide +kernel
theorem dX12_one_293 : decode cX12_one 293 = .ok (.invokevirtual 429, 3) := by decide +kernel
theorem dX12_one_296 : decode cX12_one 296 = .ok (.goto 4, 3) := by decide +kernel
theorem dX12_one_299 : decode cX12_one 299 = .ok (.iconst 0, 1) := by decide +kernel
theorem dX12_one_300 : decode cX12_one 300 = .ok (.istore 5, 2) := by decide +kernel
theorem dX12_one_302 : decode cX12_one 302 = .ok (.aload_n 0, 1) := by decide +kernel
theorem dX12_one_303 : decode cX12_one 303 = .ok (.ldc_w 438, 3) := by decide +kernel
theorem dX12_one_306 : decode cX12_one 306 = .ok (.invokevirtual 408, 3) := by decide +kernel
theorem dX12_one_309 : decode cX12_one 309 = .ok (.aload_n 0, 1) := by decide +kernel
theorem dX12_one_310 : decode cX12_one 310 = .ok (.dup, 1) := by decide +kernel
theorem dX12_one_311 : decode cX12_one 311 = .ok (.getfield 347, 3) := by decide +kernel
theorem dX12_one_314 : decode cX12_one 314 = .ok (.iconst 1, 1) := by decide +kernel
theorem dX12_one_315 : decode cX12_one 315 = .ok (.isub, 1) := by decide +kernel
theorem dX12_one_316 : decode cX12_one 316 = .ok (.putfield 347, 3) := by decide +kernel
theorem dX12_one_319 : decode cX12_one 319 = .ok (.aload_n 0, 1) := by decide +kernel
theorem dX12_one_320 : decode cX12_one 320 = .ok (.bipush 18, 2) := by decide +kernel
theorem dX12_one_322 : decode cX12_one 322 = .ok (.iload_n 3, 1) := by decide +kernel
theorem dX12_one_323 : decode cX12_one 323 = .ok (.iload 4, 2) := by decide +kernel
theorem dX12_one_325 : decode cX12_one 325 = .ok (.iload 5, 2) := by decide +kernel
theorem dX12_one_327 : decode cX12_one 327 = .ok (.iload_n 1, 1) := by decide +kernel
theorem dX12_one_328 : decode cX12_one 328 = .ok (.iload_n 1, 1) := by decide +kernel
theorem dX12_one_329 : decode cX12_one 329 = .ok (.invokevirtual 389, 3) := by decide +kernel
theorem dX12_one_332 : decode cX12_one 332 = .ok (.istore_n 2, 1) := by decide +kernel
theorem dX12_one_333 : decode cX12_one 333 = .ok (.goto 160, 3) := by decide +kernel
theorem dX12_one_336 : decode cX12_one 336 = .ok (.aload_n 0, 1) := by decide +kernel
theorem dX12_one_337 : decode cX12_one 337 = .ok (.ldc_w 372, 3) := by decide +kernel
theorem dX12_one_340 : decode cX12_one 340 = .ok (.invokevirtual 322, 3) := by decide +kernel
theorem dX12_one_343 : decode cX12_one 343 = .ok (.ifCond .eq 95, 3) := by decide +kernel
theorem dX12_one_346 : decode cX12_one 346 = .ok (.aload_n 0, 1) := by decide +kernel
theorem dX12_one_347 : decode cX12_one 347 = .ok (.iload_n 1, 1) := by decide +kernel
theorem dX12_one_348 : decode cX12_one 348 = .ok (.invokevirtual 401, 3) := by decide +kernel
theorem dX12_one_351 : decode cX12_one 351 = .ok (.aload_n 0, 1) := by decide +kernel
theorem dX12_one_352 : decode cX12_one 352 = .ok (.dup, 1) := by decide +kernel
theorem dX12_one_353 : decode cX12_one 353 = .ok (.getfield 302, 3) := by decide +kernel
theorem dX12_one_356 : decode cX12_one 356 = .ok (.iconst 1, 1) := by decide +kernel
theorem dX12_one_357 : decode cX12_one 357 = .ok (.iadd, 1) := by decide +kernel
theorem dX12_one_358 : decode cX12_one 358 = .ok (.putfield 302, 3) := by decide +kernel
theorem dX12_one_361 : decode cX12_one 361 = .ok (.aload_n 0, 1) := by decide +kernel
theorem dX12_one_362 : decode cX12_one 362 = .ok (.bipush 40, 2) := by decide +kernel
theorem dX12_one_364 : decode cX12_one 364 = .ok (.invokevirtual 414, 3) := by decide +kernel
theorem dX12_one_367 : decode cX12_one 367 = .ok (.aload_n 0, 1) := by decide +kernel
theorem dX12_one_368 : decode cX12_one 368 = .ok (.getfield 292, 3) := by decide +kernel
theorem dX12_one_371 : decode cX12_one 371 = .ok (.ifCond .eq 10, 3) := by decide +kernel
theorem dX12_one_374 : decode cX12_one 374 = .ok (.aload_n 0, 1) := by decide +kernel
theorem dX12_one_375 : decode cX12_one 375 = .ok (.invokevirtual 429, 3) := by decide +kernel
theorem dX12_one_378 : decode cX12_one 378 = .ok (.goto 4, 3) := by decide +kernel
theorem dX12_one_381 : decode cX12_one 381 = .ok (.iconst 0, 1) := by decide +kernel
theorem dX12_one_382 : decode cX12_one 382 = .ok (.istore_n 3, 1) := by decide +kernel
theorem dX12_one_383 : decode cX12_one 383 = .ok (.aload_n 0, 1) := by decide +kernel
theorem dX12_one_384 : decode cX12_one 384 = .ok (.bipush 44, 2) := by decide +kernel
theorem dX12_one_386 : decode cX12_one 386 = .ok (.invokevirtual 414, 3) := by decide +kernel
theorem dX12_one_389 : decode cX12_one 389 = .ok (.aload_n 0, 1) := by decide +kernel
theorem dX12_one_390 : decode cX12_one 390 = .ok (.getfield 292, 3) := by decide +kernel
theorem dX12_one_393 : decode cX12_one 393 = .ok (.ifCond .eq 10, 3) := by decide +kernel
theorem dX12_one_396 : decode cX12_one 396 = .ok (.aload_n 0, 1) := by decide +kernel
theorem dX12_one_397 : decode cX12_one 397 = .ok (.invokevirtual 429, 3) := by decide +kernel
theorem dX12_one_400 : decode cX12_one 400 = .ok (.goto 4, 3) := by decide +kernel
theorem dX12_one_403 : decode cX12_one 403 = .ok (.iconst 0, 1) := by decide +kernel
theorem dX12_one_404 : decode cX12_one 404 = .ok (.istore 4, 2) := by decide +kernel
theorem dX12_one_406 : decode cX12_one 406 = .ok (.aload_n 0, 1) := by decide +kernel
theorem dX12_one_407 : decode cX12_one 407 = .ok (.bipush 41, 2) := by decide +kernel
theorem dX12_one_409 : decode cX12_one 409 = .ok (.invokevirtual 414, 3) := by decide +kernel
theorem dX12_one_412 : decode cX12_one 412 = .ok (.aload_n 0, 1) := by decide +kernel
theorem dX12_one_413 : decode cX12_one 413 = .ok (.dup, 1) := by decide +kernel
theorem dX12_one_414 : decode cX12_one 414 = .ok (.getfield 347, 3) := by decide +kernel
theorem dX12_one_417 : decode cX12_one 417 = .ok (.iconst 1, 1) := by decide +kernel
theorem dX12_one_418 : decode cX12_one 418 = .ok (.isub, 1) := by decide +kernel
theorem dX12_one_419 : decode cX12_one 419 = .ok (.putfield 347, 3) := by decide +kernel
theorem dX12_one_422 : decode cX12_one 422 = .ok (.aload_n 0, 1) := by decide +kernel
theorem dX12_one_423 : decode cX12_one 423 = .ok (.bipush 19, 2) := by decide +kernel
theorem dX12_one_425 : decode cX12_one 425 = .ok (.iload_n 3, 1) := by decide +kernel
theorem dX12_one_426 : decode cX12_one 426 = .ok (.iload 4, 2) := by decide +kernel
theorem dX12_one_428 : decode cX12_one 428 = .ok (.iconst (-1), 1) := by decide +kernel
theorem dX12_one_429 : decode cX12_one 429 = .ok (.iload_n 1, 1) := by decide +kernel
theorem dX12_one_430 : decode cX12_one 430 = .ok (.iload_n 1, 1) := by decide +kernel
theorem dX12_one_431 : decode cX12_one 431 = .ok (.invokevirtual 389, 3) := by decide +kernel
theorem dX12_one_434 : decode cX12_one 434 = .ok (.istore_n 2, 1) := by decide +kernel
theorem dX12_one_435 : decode cX12_one 435 = .ok (.goto 58, 3) := by decide +kernel
theorem dX12_one_438 : decode cX12_one 438 = .ok (.aload_n 0, 1) := by decide +kernel
theorem dX12_one_439 : decode cX12_one 439 = .ok (.ldc_w 350, 3) := by decide +kernel
theorem dX12_one_442 : decode cX12_one 442 = .ok (.invokevirtual 322, 3) := by decide +kernel
theorem dX12_one_445 : decode cX12_one 445 = .ok (.ifCond .ne 33, 3) := by decide +kernel
theorem dX12_one_448 : decode cX12_one 448 = .ok (.aload_n 0, 1) := by decide +kernel
theorem dX12_one_449 : decode cX12_one 449 = .ok (.ldc_w 352, 3) := by decide +kernel
theorem dX12_one_452 : decode cX12_one 452 = .ok (.invokevirtual 322, 3) := by decide +kernel
theorem dX12_one_455 : decode cX12_one 455 = .ok (.ifCond .ne 23, 3) := by decide +kernel
theorem dX12_one_458 : decode cX12_one 458 = .ok (.aload_n 0, 1) := by decide +kernel
theorem dX12_one_459 : decode cX12_one 459 = .ok (.ldc_w 354, 3) := by decide +kernel
theorem dX12_one_462 : decode cX12_one 462 = .ok (.invokevirtual 322, 3) := by decide +kernel
theorem dX12_one_465 : decode cX12_one 465 = .ok (.ifCond .ne 13, 3) := by decide +kernel
theorem dX12_one_468 : decode cX12_one 468 = .ok (.aload_n 0, 1) := by decide +kernel
theorem dX12_one_469 : decode cX12_one 469 = .ok (.ldc_w 356, 3) := by decide +kernel
theorem dX12_one_472 : decode cX12_one 472 = .ok (.invokevirtual 322, 3) := by decide +kernel
theorem dX12_one_475 : decode cX12_one 475 = .ok (.ifCond .eq 12, 3) := by decide +kernel
theorem dX12_one_478 : decode cX12_one 478 = .ok (.aload_n 0, 1) := by decide +kernel
theorem dX12_one_479 : decode cX12_one 479 = .ok (.iload_n 1, 1) := by decide +kernel
theorem dX12_one_480 : decode cX12_one 480 = .ok (.invokevirtual 440, 3) := by decide +kernel
theorem dX12_one_483 : decode cX12_one 483 = .ok (.istore_n 2, 1) := by decide +kernel
theorem dX12_one_484 : decode cX12_one 484 = .ok (.goto 9, 3) := by decide +kernel
theorem dX12_one_487 : decode cX12_one 487 = .ok (.aload_n 0, 1) := by decide +kernel
theorem dX12_one_488 : decode cX12_one 488 = .ok (.iload_n 1, 1) := by decide +kernel
theorem dX12_one_489 : decode cX12_one 489 = .ok (.invokevirtual 444, 3) := by decide +kernel
theorem dX12_one_492 : decode cX12_one 492 = .ok (.istore_n 2, 1) := by decide +kernel
theorem dX12_one_493 : decode cX12_one 493 = .ok (.aload_n 0, 1) := by decide +kernel
theorem dX12_one_494 : decode cX12_one 494 = .ok (.iload_n 1, 1) := by decide +kernel
theorem dX12_one_495 : decode cX12_one 495 = .ok (.putfield 384, 3) := by decide +kernel
theorem dX12_one_498 : decode cX12_one 498 = .ok (.iload_n 2, 1) := by decide +kernel
theorem dX12_one_499 : decode cX12_one 499 = .ok (.ireturn, 1) := by decide +kernel
def m_one_b493 (F : Nat) (T : TG_expr) (cs1 : RS) (u1 : Int32) (u2 : Int32) : Option (RS × Int32) := some (setF cs1 74 u1, u2)
def m_one_b186 (F : Nat) (T : TG_expr) (cs1 : RS) (u1 : Int32) (y0 : Int32) : Option (RS × Int32) := Option.bind (m_needSign F (setF cs1 70 ((cs1.1 70) - 1)) 41) fun cs_1 => m_one_b493 F T cs_1 u1 y0
def m_one_b300 (F : Nat) (T : TG_expr) (cs1 : RS) (u1 : Int32) (u3 : Int32) (u4 : Int32) (y0 : Int32) : Option (RS × Int32) := Option.bind (m_needWord F cs1 20) fun cs_2 => Option.bind (m_make F (setF cs_2 70 ((cs_2.1 70) - 1)) 18 u3 u4 y0 u1 u1) fun z_3 => m_one_b493 F T z_3.1 u1 z_3.2
def m_one_b276 (F : Nat) (T : TG_expr) (cs1 : RS) (u1 : Int32) (u3 : Int32) (y0 : Int32) : Option (RS × Int32) := Option.bind (m_needWord F cs1 19) fun cs_4 => if (cs_4.1 21) = 0 then (m_one_b300 F T cs_4 u1 u3 y0 0) else (Option.bind (T.1 cs_4 ) fun z_6 => m_one_b300 F T z_6.1 u1 u3 y0 z_6.2)
def m_one_b253 (F : Nat) (T : TG_expr) (cs1 : RS) (u1 : Int32) (y0 : Int32) : Option (RS × Int32) := Option.bind (m_needWord F cs1 18) fun cs_7 => if (cs_7.1 21) = 0 then (m_one_b276 F T cs_7 u1 y0 0) else (Option.bind (T.1 cs_7 ) fun z_9 => m_one_b276 F T z_9.1 u1 y0 z_9.2)
def m_one_b404 (F : Nat) (T : TG_expr) (cs1 : RS) (u1 : Int32) (u3 : Int32) (y0 : Int32) : Option (RS × Int32) := Option.bind (m_needSign F cs1 41) fun cs_10 => Option.bind (m_make F (setF cs_10 70 ((cs_10.1 70) - 1)) 19 u3 y0 (-1) u1 u1) fun z_11 => m_one_b493 F T z_11.1 u1 z_11.2
def m_one_b382 (F : Nat) (T : TG_expr) (cs1 : RS) (u1 : Int32) (y0 : Int32) : Option (RS × Int32) := Option.bind (m_needSign F cs1 44) fun cs_12 => if (cs_12.1 21) = 0 then (m_one_b404 F T cs_12 u1 y0 0) else (Option.bind (T.1 cs_12 ) fun z_14 => m_one_b404 F T z_14.1 u1 y0 z_14.2)
def m_one_b478 (F : Nat) (T : TG_expr) (cs1 : RS) (u1 : Int32) : Option (RS × Int32) := Option.bind (T.2.2.2.2.2.2.2.2 cs1 u1) fun z_15 => m_one_b493 F T z_15.1 u1 z_15.2
def b_one (F : Nat) (T : TG_expr) (cs : RS) : Option (RS × Int32) := Option.bind (rdI (cs.2.2.1 15) 2001 (cs.1 18)) fun v_16 => if (cs.1 21) = 0 then (some (cs, 0)) else (Option.bind (rdI (cs.2.2.1 14) 2001 (cs.1 18)) fun v_18 => if v_18 = 2 then (Option.bind (rdL (cs.2.2.2 17) 2001 (cs.1 18)) fun v_55 => Option.bind (m_make F (setF cs 18 ((cs.1 18) + 1)) 1 (-1) (-1) (-1) v_16 v_16) fun z_56 => Option.bind (wrL z_56.1 28 121 z_56.2 v_55) fun cs_57 => m_one_b493 F T cs_57 v_16 z_56.2) else (Option.bind (m_takeWord F cs 9) fun z_20 => if z_20.2 = 0 then (Option.bind (m_takeWord F z_20.1 10) fun z_22 => if z_22.2 = 0 then (Option.bind (m_takeWord F z_22.1 11) fun z_24 => if z_24.2 = 0 then (Option.bind (m_isSign F z_24.1 40) fun v_26 => if v_26 = 0 then (Option.bind (m_isWord F z_24.1 12) fun v_28 => if v_28 = 0 then (Option.bind (m_isWord F z_24.1 13) fun v_30 => if v_30 = 0 then (Option.bind (m_isWord F z_24.1 5) fun v_32 => if v_32 = 0 then (Option.bind (m_isWord F z_24.1 6) fun v_34 => if v_34 = 0 then (Option.bind (m_isWord F z_24.1 7) fun v_36 => if v_36 = 0 then (Option.bind (m_isWord F z_24.1 8) fun v_38 => if v_38 = 0 then (Option.bind (m_columnOf F z_24.1 v_16) fun z_40 => m_one_b493 F T z_40.1 v_16 z_40.2) else (m_one_b478 F T z_24.1 v_16)) else (m_one_b478 F T z_24.1 v_16)) else (m_one_b478 F T z_24.1 v_16)) else (m_one_b478 F T z_24.1 v_16)) else (Option.bind (m_deeper F z_24.1 v_16) fun cs_41 => Option.bind (m_needSign F (setF cs_41 18 ((cs_41.1 18) + 1)) 40) fun cs_42 => if (cs_42.1 21) = 0 then (m_one_b382 F T cs_42 v_16 0) else (Option.bind (T.1 cs_42 ) fun z_44 => m_one_b382 F T z_44.1 v_16 z_44.2))) else (Option.bind (m_deeper F z_24.1 v_16) fun cs_45 => Option.bind (m_needWord F (setF cs_45 18 ((cs_45.1 18) + 1)) 17) fun cs_46 => if (cs_46.1 21) = 0 then (m_one_b253 F T cs_46 v_16 0) else (Option.bind (T.1 cs_46 ) fun z_48 => m_one_b253 F T z_48.1 v_16 z_48.2))) else (Option.bind (m_deeper F z_24.1 v_16) fun cs_49 => if ((setF cs_49 18 ((cs_49.1 18) + 1)).1 21) = 0 then (m_one_b186 F T (setF cs_49 18 ((cs_49.1 18) + 1)) v_16 0) else (Option.bind (T.1 (setF cs_49 18 ((cs_49.1 18) + 1)) ) fun z_51 => m_one_b186 F T z_51.1 v_16 z_51.2))) else (Option.bind (m_make F z_24.1 4 (-1) (-1) (-1) v_16 v_16) fun z_52 => m_one_b493 F T z_52.1 v_16 z_52.2)) else (Option.bind (m_make F z_22.1 3 (-1) (-1) (-1) v_16 v_16) fun z_53 => m_one_b493 F T z_53.1 v_16 z_53.2)) else (Option.bind (m_make F z_20.1 2 (-1) (-1) (-1) v_16 v_16) fun z_54 => m_one_b493 F T z_54.1 v_16 z_54.2)))
theorem dX12_aggregate_0 : decode cX12_aggregate 0 = .ok (.aload_n 0, 1) := by decide +kernel
theorem dX12_aggregate_1 : decode cX12_aggregate 1 = .ok (.getfield 358, 3) := by decide +kernel
theorem dX12_aggregate_4 : decode cX12_aggregate 4 = .ok (.ifCond .eq 10, 3) := by decide +kernel
theorem dX12_aggregate_7 : decode cX12_aggregate 7 = .ok (.aload_n 0, 1) := by decide +kernel
theorem dX12_aggregate_8 : decode cX12_aggregate 8 = .ok (.getfield 361, 3) := by decide +kernel
theorem dX12_aggregate_11 : decode cX12_aggregate 11 = .ok (.ifCond .eq 9, 3) := by decide +kernel
theorem dX12_aggregate_14 : decode cX12_aggregate 14 = .ok (.aload_n 0, 1) := by decide +kernel
theorem dX12_aggregate_15 : decode cX12_aggregate 15 = .ok (.invokevirtual 329, 3) := by decide +kernel
theorem dX12_aggregate_18 : decode cX12_aggregate 18 = .ok (.iconst 0, 1) := by decide +kernel
theorem dX12_aggregate_19 : decode cX12_aggregate 19 = .ok (.ireturn, 1) := by decide +kernel
theorem dX12_aggregate_20 : decode cX12_aggregate 20 = .ok (.aload_n 0, 1) := by decide +kernel
theorem dX12_aggregate_21 : decode cX12_aggregate 21 = .ok (.getfield 106, 3) := by decide +kernel
theorem dX12_aggregate_24 : decode cX12_aggregate 24 = .ok (.aload_n 0, 1) := by decide +kernel
theorem dX12_aggregate_25 : decode cX12_aggregate 25 = .ok (.getfield 447, 3) := by decide +kernel
theorem dX12_aggregate_28 : decode cX12_aggregate 28 = .ok (.dup2, 1) := by decide +kernel
theorem dX12_aggregate_29 : decode cX12_aggregate 29 = .ok (.iaload, 1) := by decide +kernel
theorem dX12_aggregate_30 : decode cX12_aggregate 30 = .ok (.iconst 1, 1) := by decide +kernel
theorem dX12_aggregate_31 : decode cX12_aggregate 31 = .ok (.iadd, 1) := by decide +kernel
theorem dX12_aggregate_32 : decode cX12_aggregate 32 = .ok (.iastore, 1) := by decide +kernel
theorem dX12_aggregate_33 : decode cX12_aggregate 33 = .ok (.aload_n 0, 1) := by decide +kernel
theorem dX12_aggregate_34 : decode cX12_aggregate 34 = .ok (.getfield 106, 3) := by decide +kernel
theorem dX12_aggregate_37 : decode cX12_aggregate 37 = .ok (.aload_n 0, 1) := by decide +kernel
theorem dX12_aggregate_38 : decode cX12_aggregate 38 = .ok (.getfield 447, 3) := by decide +kernel
theorem dX12_aggregate_41 : decode cX12_aggregate 41 = .ok (.iaload, 1) := by decide +kernel
theorem dX12_aggregate_42 : decode cX12_aggregate 42 = .ok (.bipush 13, 2) := by decide +kernel
theorem dX12_aggregate_44 : decode cX12_aggregate 44 = .ok (.if_icmp .ne 10, 3) := by decide +kernel
theorem dX12_aggregate_47 : decode cX12_aggregate 47 = .ok (.aload_n 0, 1) := by decide +kernel
theorem dX12_aggregate_48 : decode cX12_aggregate 48 = .ok (.bipush 7, 2) := by decide +kernel
theorem dX12_aggregate_50 : decode cX12_aggregate 50 = .ok (.iload_n 1, 1) := by decide +kernel
theorem dX12_aggregate_51 : decode cX12_aggregate 51 = .ok (.invokevirtual 305, 3) := by decide +kernel
theorem dX12_aggregate_54 : decode cX12_aggregate 54 = .ok (.aload_n 0, 1) := by decide +kernel
theorem dX12_aggregate_55 : decode cX12_aggregate 55 = .ok (.getfield 109, 3) := by decide +kernel
theorem dX12_aggregate_58 : decode cX12_aggregate 58 = .ok (.aload_n 0, 1) := by decide +kernel
theorem dX12_aggregate_59 : decode cX12_aggregate 59 = .ok (.getfield 447, 3) := by decide +kernel
theorem dX12_aggregate_62 : decode cX12_aggregate 62 = .ok (.iaload, 1) := by decide +kernel
theorem dX12_aggregate_63 : decode cX12_aggregate 63 = .ok (.iconst (-1), 1) := by decide +kernel
theorem dX12_aggregate_64 : decode cX12_aggregate 64 = .ok (.if_icmp .ne 13, 3) := by decide +kernel
theorem dX12_aggregate_67 : decode cX12_aggregate 67 = .ok (.aload_n 0, 1) := by decide +kernel
theorem dX12_aggregate_68 : decode cX12_aggregate 68 = .ok (.getfield 109, 3) := by decide +kernel
theorem dX12_aggregate_71 : decode cX12_aggregate 71 = .ok (.aload_n 0, 1) := by decide +kernel
theorem dX12_aggregate_72 : decode cX12_aggregate 72 = .ok (.getfield 447, 3) := by decide +kernel
theorem dX12_aggregate_75 : decode cX12_aggregate 75 = .ok (.iload_n 1, 1) := by decide +kernel
theorem dX12_aggregate_76 : decode cX12_aggregate 76 = .ok (.iastore, 1) := by decide +kernel
theorem dX12_aggregate_77 : decode cX12_aggregate 77 = .ok (.aload_n 0, 1) := by decide +kernel
theorem dX12_aggregate_78 : decode cX12_aggregate 78 = .ok (.iload_n 1, 1) := by decide +kernel
theorem dX12_aggregate_79 : decode cX12_aggregate 79 = .ok (.invokevirtual 401, 3) := by decide +kernel
theorem dX12_aggregate_82 : decode cX12_aggregate 82 = .ok (.aload_n 0, 1) := by decide +kernel
theorem dX12_aggregate_83 : decode cX12_aggregate 83 = .ok (.ldc_w 350, 3) := by decide +kernel
theorem dX12_aggregate_86 : decode cX12_aggregate 86 = .ok (.invokevirtual 322, 3) := by decide +kernel
theorem dX12_aggregate_89 : decode cX12_aggregate 89 = .ok (.ifCond .eq 8, 3) := by decide +kernel
theorem dX12_aggregate_92 : decode cX12_aggregate 92 = .ok (.bipush 21, 2) := by decide +kernel
theorem dX12_aggregate_94 : decode cX12_aggregate 94 = .ok (.goto 35, 3) := by decide +kernel
theorem dX12_aggregate_97 : decode cX12_aggregate 97 = .ok (.aload_n 0, 1) := by decide +kernel
theorem dX12_aggregate_98 : decode cX12_aggregate 98 = .ok (.ldc_w 352, 3) := by decide +kernel
theorem dX12_aggregate_101 : decode cX12_aggregate 101 = .ok (.invokevirtual 322, 3) := by decide +kernel
theorem dX12_aggregate_104 : decode cX12_aggregate 104 = .ok (.ifCond .eq 8, 3) := by decide +kernel
theorem dX12_aggregate_107 : decode cX12_aggregate 107 = .ok (.bipush 22, 2) := by decide +kernel
theorem dX12_aggregate_109 : decode cX12_aggregate 109 = .ok (.goto 20, 3) := by decide +kernel
theorem dX12_aggregate_112 : decode cX12_aggregate 112 = .ok (.aload_n 0, 1) := by decide +kernel
theorem dX12_aggregate_113 : decode cX12_aggregate 113 = .ok (.ldc_w 354, 3) := by decide +kernel
theorem dX12_aggregate_116 : decode cX12_aggregate 116 = .ok (.invokevirtual 322, 3) := by decide +kernel
theorem dX12_aggregate_119 : decode cX12_aggregate 119 = .ok (.ifCond .eq 8, 3) := by decide +kernel
theorem dX12_aggregate_122 : decode cX12_aggregate 122 = .ok (.bipush 23, 2) := by decide +kernel
theorem dX12_aggregate_124 : decode cX12_aggregate 124 = .ok (.goto 5, 3) := by decide +kernel
theorem dX12_aggregate_127 : decode cX12_aggregate 127 = .ok (.bipush 24, 2) := by decide +kernel
theorem dX12_aggregate_129 : decode cX12_aggregate 129 = .ok (.istore_n 2, 1) := by decide +kernel
theorem dX12_aggregate_130 : decode cX12_aggregate 130 = .ok (.aload_n 0, 1) := by decide +kernel
theorem dX12_aggregate_131 : decode cX12_aggregate 131 = .ok (.dup, 1) := by decide +kernel
theorem dX12_aggregate_132 : decode cX12_aggregate 132 = .ok (.getfield 302, 3) := by decide +kernel
theorem dX12_aggregate_135 : decode cX12_aggregate 135 = .ok (.iconst 1, 1) := by decide +kernel
theorem dX12_aggregate_136 : decode cX12_aggregate 136 = .ok (.iadd, 1) := by decide +kernel
theorem dX12_aggregate_137 : decode cX12_aggregate 137 = .ok (.putfield 302, 3) := by decide +kernel
theorem dX12_aggregate_140 : decode cX12_aggregate 140 = .ok (.aload_n 0, 1) := by decide +kernel
theorem dX12_aggregate_141 : decode cX12_aggregate 141 = .ok (.bipush 40, 2) := by decide +kernel
theorem dX12_aggregate_143 : decode cX12_aggregate 143 = .ok (.invokevirtual 414, 3) := by decide +kernel
theorem dX12_aggregate_146 : decode cX12_aggregate 146 = .ok (.iconst (-1), 1) := by decide +kernel
theorem dX12_aggregate_147 : decode cX12_aggregate 147 = .ok (.istore_n 3, 1) := by decide +kernel
theorem dX12_aggregate_148 : decode cX12_aggregate 148 = .ok (.iload_n 2, 1) := by decide +kernel
theorem dX12_aggregate_149 : decode cX12_aggregate 149 = .ok (.bipush 21, 2) := by decide +kernel
theorem dX12_aggregate_151 : decode cX12_aggregate 151 = .ok (.if_icmp .ne 18, 3) := by decide +kernel
theorem dX12_aggregate_154 : decode cX12_aggregate 154 = .ok (.aload_n 0, 1) := by decide +kernel
theorem dX12_aggregate_155 : decode cX12_aggregate 155 = .ok (.bipush 42, 2) := by decide +kernel
theorem dX12_aggregate_157 : decode cX12_aggregate 157 = .ok (.invokevirtual 335, 3) := by decide +kernel
theorem dX12_aggregate_160 : decode cX12_aggregate 160 = .ok (.ifCond .eq 9, 3) := by decide +kernel
theorem dX12_aggregate_163 : decode cX12_aggregate 163 = .ok (.bipush 20, 2) := by decide +kernel
theorem dX12_aggregate_165 : decode cX12_aggregate 165 = .ok (.istore_n 2, 1) := by decide +kernel
theorem dX12_aggregate_166 : decode cX12_aggregate 166 = .ok (.goto 29, 3) := by decide +kernel
theorem dX12_aggregate_169 : decode cX12_aggregate 169 = .ok (.aload_n 0, 1) := by decide +kernel
theorem dX12_aggregate_170 : decode cX12_aggregate 170 = .ok (.iconst 1, 1) := by decide +kernel
theorem dX12_aggregate_171 : decode cX12_aggregate 171 = .ok (.putfield 361, 3) := by decide +kernel
theorem dX12_aggregate_174 : decode cX12_aggregate 174 = .ok (.aload_n 0, 1) := by decide +kernel
theorem dX12_aggregate_175 : decode cX12_aggregate 175 = .ok (.getfield 292, 3) := by decide +kernel
theorem dX12_aggregate_178 : decode cX12_aggregate 178 = .ok (.ifCond .eq 10, 3) := by decide +kernel
theorem dX12_aggregate_181 : decode cX12_aggregate 181 = .ok (.aload_n 0, 1) := by decide +kernel
theorem dX12_aggregate_182 : decode cX12_aggregate 182 = .ok (.invokevirtual 429, 3) := by decide +kernel
theorem dX12_aggregate_185 : decode cX12_aggregate 185 = .ok (.goto 4, 3) := by decide +kernel
theorem dX12_aggregate_188 : decode cX12_aggregate 188 = .ok (.iconst 0, 1) := by decide +kernel
theorem dX12_aggregate_189 : decode cX12_aggregate 189 = .ok (.istore_n 3, 1) := by decide +kernel
theorem dX12_aggregate_190 : decode cX12_aggregate 190 = .ok (.aload_n 0, 1) := by decide +kernel
theorem dX12_aggregate_191 : decode cX12_aggregate 191 = .ok (.iconst 0, 1) := by decide +kernel
theorem dX12_aggregate_192 : decode cX12_aggregate 192 = .ok (.putfield 361, 3) := by decide +kernel
theorem dX12_aggregate_195 : decode cX12_aggregate 195 = .ok (.aload_n 0, 1) := by decide +kernel
theorem dX12_aggregate_196 : decode cX12_aggregate 196 = .ok (.bipush 41, 2) := by decide +kernel
theorem dX12_aggregate_198 : decode cX12_aggregate 198 = .ok (.invokevirtual 414, 3) := by decide +kernel
theorem dX12_aggregate_201 : decode cX12_aggregate 201 = .ok (.aload_n 0, 1) := by decide +kernel
theorem dX12_aggregate_202 : decode cX12_aggregate 202 = .ok (.dup, 1) := by decide +kernel
theorem dX12_aggregate_203 : decode cX12_aggregate 203 = .ok (.getfield 347, 3) := by decide +kernel
theorem dX12_aggregate_206 : decode cX12_aggregate 206 = .ok (.iconst 1, 1) := by decide +kernel
theorem dX12_aggregate_207 : decode cX12_aggregate 207 = .ok (.isub, 1) := by decide +kernel
theorem dX12_aggregate_208 : decode cX12_aggregate 208 = .ok (.putfield 347, 3) := by decide +kernel
theorem dX12_aggregate_211 : decode cX12_aggregate 211 = .ok (.aload_n 0, 1) := by decide +kernel
theorem dX12_aggregate_212 : decode cX12_aggregate 212 = .ok (.iload_n 2, 1) := by decide +kernel
theorem dX12_aggregate_213 : decode cX12_aggregate 213 = .ok (.iload_n 3, 1) := by decide +kernel
theorem dX12_aggregate_214 : decode cX12_aggregate 214 = .ok (.iconst (-1), 1) := by decide +kernel
theorem dX12_aggregate_215 : decode cX12_aggregate 215 = .ok (.iconst (-1), 1) := by decide +kernel
theorem dX12_aggregate_216 : decode cX12_aggregate 216 = .ok (.iload_n 1, 1) := by decide +kernel
theorem dX12_aggregate_217 : decode cX12_aggregate 217 = .ok (.iload_n 1, 1) := by decide +kernel
theorem dX12_aggregate_218 : decode cX12_aggregate 218 = .ok (.invokevirtual 389, 3) := by decide +kernel
theorem dX12_aggregate_221 : decode cX12_aggregate 221 = .ok (.ireturn, 1) := by decide +kernel
def m_aggregate_b14 (F : Nat) (T : TG_expr) (cs1 : RS) : Option (RS × Int32) := Option.bind (m_wrong F cs1 ) fun cs_1 => some (cs_1, 0)
def m_aggregate_b195 (F : Nat) (T : TG_expr) (cs1 : RS) (u1 : Int32) (u2 : Int32) (u3 : Int32) : Option (RS × Int32) := Option.bind (m_needSign F cs1 41) fun cs_2 => Option.bind (m_make F (setF cs_2 70 ((cs_2.1 70) - 1)) u2 u3 (-1) (-1) u1 u1) fun z_3 => some (z_3.1, z_3.2)
def m_aggregate_b189 (F : Nat) (T : TG_expr) (cs1 : RS) (u1 : Int32) (u2 : Int32) (y0 : Int32) : Option (RS × Int32) := m_aggregate_b195 F T (setF cs1 73 0) u1 u2 y0
def m_aggregate_b169 (F : Nat) (T : TG_expr) (cs1 : RS) (u1 : Int32) (u2 : Int32) : Option (RS × Int32) := if ((setF cs1 73 1).1 21) = 0 then (m_aggregate_b189 F T (setF cs1 73 1) u1 u2 0) else (Option.bind (T.1 (setF cs1 73 1) ) fun z_5 => m_aggregate_b189 F T z_5.1 u1 u2 z_5.2)
def m_aggregate_b129 (F : Nat) (T : TG_expr) (cs1 : RS) (u1 : Int32) (y0 : Int32) : Option (RS × Int32) := Option.bind (m_needSign F (setF cs1 18 ((cs1.1 18) + 1)) 40) fun cs_6 => if y0 = 21 then (Option.bind (m_takeSign F cs_6 42) fun z_8 => if z_8.2 = 0 then (m_aggregate_b169 F T z_8.1 u1 y0) else (m_aggregate_b195 F T z_8.1 u1 20 (-1))) else (m_aggregate_b169 F T cs_6 u1 y0)
def m_aggregate_b77 (F : Nat) (T : TG_expr) (cs1 : RS) (u1 : Int32) : Option (RS × Int32) := Option.bind (m_deeper F cs1 u1) fun cs_10 => Option.bind (m_isWord F cs_10 5) fun v_11 => if v_11 = 0 then (Option.bind (m_isWord F cs_10 6) fun v_13 => if v_13 = 0 then (Option.bind (m_isWord F cs_10 7) fun v_15 => if v_15 = 0 then (m_aggregate_b129 F T cs_10 u1 24) else (m_aggregate_b129 F T cs_10 u1 23)) else (m_aggregate_b129 F T cs_10 u1 22)) else (m_aggregate_b129 F T cs_10 u1 21)
def m_aggregate_b54 (F : Nat) (T : TG_expr) (cs1 : RS) (u1 : Int32) : Option (RS × Int32) := Option.bind (rdI (cs1.2.2.1 43) 60 (cs1.1 71)) fun v_17 => if v_17 = (-1) then (Option.bind (wrI cs1 43 60 (cs1.1 71) u1) fun cs_19 => m_aggregate_b77 F T cs_19 u1) else (m_aggregate_b77 F T cs1 u1)
def b_aggregate (F : Nat) (T : TG_expr) (cs : RS) (x1 : Int32) : Option (RS × Int32) := if (cs.1 72) = 0 then (m_aggregate_b14 F T cs) else (if (cs.1 73) = 0 then (Option.bind (rdI (cs.2.2.1 42) 60 (cs.1 71)) fun v_22 => Option.bind (wrI cs 42 60 (cs.1 71) (v_22 + 1)) fun cs_23 => Option.bind (rdI (cs_23.2.2.1 42) 60 (cs_23.1 71)) fun v_24 => if v_24 = 13 then (Option.bind (m_tell F cs_23 7 x1) fun cs_26 => m_aggregate_b54 F T cs_26 x1) else (m_aggregate_b54 F T cs_23 x1)) else (m_aggregate_b14 F T cs))
def tab_expr (F : Nat) : Nat → TG_expr
  | 0 => (fun _ => none, fun _ => none, fun _ => none, fun _ => none, fun _ => none, fun _ => none, fun _ => none, fun _ => none, fun _ _ => none)
  | n + 1 => (b_expr F (tab_expr F n), b_andExpr F (tab_expr F n), b_notExpr F (tab_expr F n), b_test F (tab_expr F n), b_sum F (tab_expr F n), b_part F (tab_expr F n), b_sign F (tab_expr F n), b_one F (tab_expr F n), b_aggregate F (tab_expr F n))
theorem cw_expr {R : Room} {s : State} {args : Array Value} {y0 : MethodName} {c0 : ByteArray} {n0 : Nat} {r0 : Option FieldType} (hts : ∀ w ∈ wsOf y0 c0 n0 r0, w.before args s = true) {fr : Nat} (h1 : fr + 1 ≤ R.frames) (h2 : 8 + (5 + 11) + 60 * fr ≤ R.locals) : CallW R s args RX12 RX12 429 yX12_expr cX12_expr 5 (some .int) (wsOf yX12_expr cX12_expr 5 (some .int)) ({ frames := fr, cells := 0, slots := 0, locals := 60 * fr } : Room) 0 0 0 := cwV 0 hts (gd_all (in_V kw_2297 kw_2299 kw_144 kw_191 kc_X12_expr)) rfl rfl rfl (by decide +kernel) ⟨h1, h2⟩
theorem cw_andExpr {R : Room} {s : State} {args : Array Value} {y0 : MethodName} {c0 : ByteArray} {n0 : Nat} {r0 : Option FieldType} (hts : ∀ w ∈ wsOf y0 c0 n0 r0, w.before args s = true) {fr : Nat} (h1 : fr + 1 ≤ R.frames) (h2 : 8 + (5 + 11) + 60 * fr ≤ R.locals) : CallW R s args RX12 RX12 381 yX12_andExpr cX12_andExpr 5 (some .int) (wsOf yX12_andExpr cX12_andExpr 5 (some .int)) ({ frames := fr, cells := 0, slots := 0, locals := 60 * fr } : Room) 0 0 0 := cwV 0 hts (gd_all (in_V kw_2301 kw_2303 kw_145 kw_191 kc_X12_andExpr)) rfl rfl rfl (by decide +kernel) ⟨h1, h2⟩
theorem cw_notExpr {R : Room} {s : State} {args : Array Value} {y0 : MethodName} {c0 : ByteArray} {n0 : Nat} {r0 : Option FieldType} (hts : ∀ w ∈ wsOf y0 c0 n0 r0, w.before args s = true) {fr : Nat} (h1 : fr + 1 ≤ R.frames) (h2 : 8 + (3 + 11) + 60 * fr ≤ R.locals) : CallW R s args RX12 RX12 393 yX12_notExpr cX12_notExpr 3 (some .int) (wsOf yX12_notExpr cX12_notExpr 3 (some .int)) ({ frames := fr, cells := 0, slots := 0, locals := 60 * fr } : Room) 0 0 0 := cwV 0 hts (gd_all (in_V kw_2305 kw_2307 kw_146 kw_191 kc_X12_notExpr)) rfl rfl rfl (by decide +kernel) ⟨h1, h2⟩
theorem cw_test {R : Room} {s : State} {args : Array Value} {y0 : MethodName} {c0 : ByteArray} {n0 : Nat} {r0 : Option FieldType} (hts : ∀ w ∈ wsOf y0 c0 n0 r0, w.before args s = true) {fr : Nat} (h1 : fr + 1 ≤ R.frames) (h2 : 8 + (11 + 11) + 60 * fr ≤ R.locals) : CallW R s args RX12 RX12 398 yX12_test cX12_test 11 (some .int) (wsOf yX12_test cX12_test 11 (some .int)) ({ frames := fr, cells := 0, slots := 0, locals := 60 * fr } : Room) 0 0 0 := cwV 0 hts (gd_all (in_V kw_2309 kw_2311 kw_147 kw_191 kc_X12_test)) rfl rfl rfl (by decide +kernel) ⟨h1, h2⟩
theorem cw_sum {R : Room} {s : State} {args : Array Value} {y0 : MethodName} {c0 : ByteArray} {n0 : Nat} {r0 : Option FieldType} (hts : ∀ w ∈ wsOf y0 c0 n0 r0, w.before args s = true) {fr : Nat} (h1 : fr + 1 ≤ R.frames) (h2 : 8 + (6 + 11) + 60 * fr ≤ R.locals) : CallW R s args RX12 RX12 404 yX12_sum cX12_sum 6 (some .int) (wsOf yX12_sum cX12_sum 6 (some .int)) ({ frames := fr, cells := 0, slots := 0, locals := 60 * fr } : Room) 0 0 0 := cwV 0 hts (gd_all (in_V kw_2313 kw_2315 kw_148 kw_191 kc_X12_sum)) rfl rfl rfl (by decide +kernel) ⟨h1, h2⟩
theorem cw_part {R : Room} {s : State} {args : Array Value} {y0 : MethodName} {c0 : ByteArray} {n0 : Nat} {r0 : Option FieldType} (hts : ∀ w ∈ wsOf y0 c0 n0 r0, w.before args s = true) {fr : Nat} (h1 : fr + 1 ≤ R.frames) (h2 : 8 + (6 + 11) + 60 * fr ≤ R.locals) : CallW R s args RX12 RX12 420 yX12_part cX12_part 6 (some .int) (wsOf yX12_part cX12_part 6 (some .int)) ({ frames := fr, cells := 0, slots := 0, locals := 60 * fr } : Room) 0 0 0 := cwV 0 hts (gd_all (in_V kw_2317 kw_2319 kw_149 kw_191 kc_X12_part)) rfl rfl rfl (by decide +kernel) ⟨h1, h2⟩
theorem cw_sign {R : Room} {s : State} {args : Array Value} {y0 : MethodName} {c0 : ByteArray} {n0 : Nat} {r0 : Option FieldType} (hts : ∀ w ∈ wsOf y0 c0 n0 r0, w.before args s = true) {fr : Nat} (h1 : fr + 1 ≤ R.frames) (h2 : 8 + (3 + 11) + 60 * fr ≤ R.locals) : CallW R s args RX12 RX12 423 yX12_sign cX12_sign 3 (some .int) (wsOf yX12_sign cX12_sign 3 (some .int)) ({ frames := fr, cells := 0, slots := 0, locals := 60 * fr } : Room) 0 0 0 := cwV 0 hts (gd_all (in_V kw_2321 kw_2323 kw_150 kw_191 kc_X12_sign)) rfl rfl rfl (by decide +kernel) ⟨h1, h2⟩
theorem cw_one {R : Room} {s : State} {args : Array Value} {y0 : MethodName} {c0 : ByteArray} {n0 : Nat} {r0 : Option FieldType} (hts : ∀ w ∈ wsOf y0 c0 n0 r0, w.before args s = true) {fr : Nat} (h1 : fr + 1 ≤ R.frames) (h2 : 8 + (6 + 11) + 60 * fr ≤ R.locals) : CallW R s args RX12 RX12 426 yX12_one cX12_one 6 (some .int) (wsOf yX12_one cX12_one 6 (some .int)) ({ frames := fr, cells := 0, slots := 0, locals := 60 * fr } : Room) 0 0 0 := cwV 0 hts (gd_all (in_V kw_2329 kw_2331 kw_152 kw_191 kc_X12_one)) rfl rfl rfl (by decide +kernel) ⟨h1, h2⟩
theorem cw_aggregate {R : Room} {s : State} {args : Array Value} {y0 : MethodName} {c0 : ByteArray} {n0 : Nat} {r0 : Option FieldType} (hts : ∀ w ∈ wsOf y0 c0 n0 r0, w.before args s = true) {fr : Nat} (h1 : fr + 1 ≤ R.frames) (h2 : 8 + (4 + 11) + 60 * fr ≤ R.locals) : CallW R s args RX12 RX12 440 yX12_aggregate cX12_aggregate 4 (some .int) (wsOf yX12_aggregate cX12_aggregate 4 (some .int)) ({ frames := fr, cells := 0, slots := 0, locals := 60 * fr } : Room) 0 0 1 := cwV 1 hts (gd_all (in_V kw_2353 kw_2355 kw_157 kw_191 kc_X12_aggregate)) rfl rfl rfl (by decide +kernel) ⟨h1, h2⟩
set_option maxHeartbeats 4000000 in
set_option maxRecDepth 100000 in
theorem sb_expr (l : Launch) (dC : Nat → ClassId) (dI : Nat → Nat → Nat) (cB cI cJ cZ : ClassId) (h0 : Nat) (a : Nat → Nat) (K V : Nat → Nat) (fz : Value) (F : Nat) (n : Nat) (T : TG_expr) (hT_expr : ∀ (cs : RS) (cs9 : RS) (r9 : Int32), T.1 cs = some (cs9, r9) → okI l dC dI cB cI cJ cZ h0 a K V fz yX12_expr (wsOf yX12_expr cX12_expr 5 (some .int)) (n + 10) [.ref h0] cs cs9 r9) (hT_andExpr : ∀ (cs : RS) (cs9 : RS) (r9 : Int32), T.2.1 cs = some (cs9, r9) → okI l dC dI cB cI cJ cZ h0 a K V fz yX12_andExpr (wsOf yX12_andExpr cX12_andExpr 5 (some .int)) (n + 10) [.ref h0] cs cs9 r9) (hT_notExpr : ∀ (cs : RS) (cs9 : RS) (r9 : Int32), T.2.2.1 cs = some (cs9, r9) → okI l dC dI cB cI cJ cZ h0 a K V fz yX12_notExpr (wsOf yX12_notExpr cX12_notExpr 3 (some .int)) (n + 10) [.ref h0] cs cs9 r9) (hT_test : ∀ (cs : RS) (cs9 : RS) (r9 : Int32), T.2.2.2.1 cs = some (cs9, r9) → okI l dC dI cB cI cJ cZ h0 a K V fz yX12_test (wsOf yX12_test cX12_test 11 (some .int)) (n + 10) [.ref h0] cs cs9 r9) (hT_sum : ∀ (cs : RS) (cs9 : RS) (r9 : Int32), T.2.2.2.2.1 cs = some (cs9, r9) → okI l dC dI cB cI cJ cZ h0 a K V fz yX12_sum (wsOf yX12_sum cX12_sum 6 (some .int)) (n + 10) [.ref h0] cs cs9 r9) (hT_part : ∀ (cs : RS) (cs9 : RS) (r9 : Int32), T.2.2.2.2.2.1 cs = some (cs9, r9) → okI l dC dI cB cI cJ cZ h0 a K V fz yX12_part (wsOf yX12_part cX12_part 6 (some .int)) (n + 10) [.ref h0] cs cs9 r9) (hT_sign : ∀ (cs : RS) (cs9 : RS) (r9 : Int32), T.2.2.2.2.2.2.1 cs = some (cs9, r9) → okI l dC dI cB cI cJ cZ h0 a K V fz yX12_sign (wsOf yX12_sign cX12_sign 3 (some .int)) (n + 10) [.ref h0] cs cs9 r9) (hT_one : ∀ (cs : RS) (cs9 : RS) (r9 : Int32), T.2.2.2.2.2.2.2.1 cs = some (cs9, r9) → okI l dC dI cB cI cJ cZ h0 a K V fz yX12_one (wsOf yX12_one cX12_one 6 (some .int)) (n + 10) [.ref h0] cs cs9 r9) (hT_aggregate : ∀ (cs : RS) (x1 : Int32) (cs9 : RS) (r9 : Int32), T.2.2.2.2.2.2.2.2 cs x1 = some (cs9, r9) → okI l dC dI cB cI cJ cZ h0 a K V fz yX12_aggregate (wsOf yX12_aggregate cX12_aggregate 4 (some .int)) (n + 10) [.ref h0, .int x1] cs cs9 r9) (cs : RS) (cs9 : RS) (r9 : Int32) (hf : b_expr F T cs = some (cs9, r9)) : okI l dC dI cB cI cJ cZ h0 a K V fz yX12_expr (wsOf yX12_expr cX12_expr 5 (some .int)) (n + 1 + 10) [.ref h0] cs cs9 r9 := by
  intro sz
  refine Met.ofW (cc := cX12_expr) (maxL := 5) (ret := (some .int)) (by decide) rfl ?_
  intro p e s m args below meth c s₁ B hml hv
  obtain ⟨rfl, hsz, hP, hK, hD0, hZ⟩ := hv
  have hx := B.exec
  have hb := B.bytes
  have hr := B.returns
  have hts := atoms_spec (ws := (wsOf yX12_expr cX12_expr 5 (some .int))) B.pre
  have hown : s.vm.findClass RX12 = some m.cls := findClass_of_methodNamed B.named
  have hlocks := B.notSynchronized
  subst hsz
  have hD := hD0.self (sz := s.heap.size)
  generalize hAe : va_A (mW cB cI cJ cZ h0 a cs) s.heap.size = A at hD hZ ⊢
  have hA : ∀ q : Nat, s.heap.size ≤ q → A q := fun q h => by rw [← hAe]; exact Or.inr h
  have hS : va_S A s.heap s.heap [] := va_S.rf
  have hl := lv_entry ([.ref h0]) (n := 5) (Nat.le_of_ble_eq_true rfl)
  rw [lg_entry_eq]
  generalize (lg_sl ([.ref h0]) ++ List.replicate (5 - (lg_sl ([.ref h0])).length) Slot.unset).toArray = ls at hl ⊢
  have hl : lv_has ls 5 [(0, .ref h0)] := hl
  have B_69 : ∀ (cs1 : RS) (u1 : Int32) (u2 : Int32), m_expr_b69 F T cs1 u1 u2 = some (cs9, r9) → ∀ (H : Heap) (locs : List Loc) (ls : Array Slot), va_P (dC, dI) vwCl (mW cB cI cJ cZ h0 a cs1) H → va_D A (mW cB cI cJ cZ h0 a cs1) → va_S A s.heap H locs → lv_has ls 5 [(0, .ref h0), (1, .int u1), (2, .int u2)] → W p l e (headSpec (wsOf yX12_expr cX12_expr 5 (some .int)) ({ frames := n + 1 + 10, cells := 0, slots := 0, locals := 60 * (n + 1 + 10) } : Room)).room s m ([.ref h0] : List Value).toArray below meth c H locs 0 0 (MQ below (va_Qi (fun (x : Int32) (_ : Unit) => x = r9) (fun _ t_ => va_P (dC, dI) vwCl (mW cB cI cJ cZ h0 a cs9) t_.heap ∧ va_D A (mW cB cI cJ cZ h0 a cs9)) A) ([.ref h0] : List Value).toArray s 0 0 A) (F0 m 69 ls []) := by
    intro cs1 u1 u2 h H locs ls hP hD hS hl
    unfold m_expr_b69 at h
    refine lv_aload_n hx hb dX12_expr_69 rfl (lv_at hl 0 rfl) ?_
    refine lv_iload_n hx hb dX12_expr_70 rfl (lv_at hl 2 rfl) ?_
    refine fp_74 hx hb hts hown hK hP hD hS dX12_expr_71 (fun H locs hP hD hS => ?_)
    refine lv_iload_n hx hb dX12_expr_74 rfl (lv_at hl 1 rfl) ?_
    obtain ⟨e1, e2⟩ := Prod.mk.inj (Option.some.inj h)
    rw [e1] at hP hD
    exact W.iret (v := u1) hx hb hr (fun t_ ht hW => ⟨⟨u1, (), rfl, e2, by rw [ht]; exact hP, hD⟩, hS.F ht⟩) hS.2.2 dX12_expr_75
  have L_10 : ∀ (lf_10 : Nat), ∀ (cs1 : RS) (u1 : Int32) (u2 : Int32), m_expr_L10 F T lf_10 cs1 u1 u2 = some (cs9, r9) → ∀ (H : Heap) (locs : List Loc) (ls : Array Slot), va_P (dC, dI) vwCl (mW cB cI cJ cZ h0 a cs1) H → va_D A (mW cB cI cJ cZ h0 a cs1) → va_S A s.heap H locs → lv_has ls 5 [(0, .ref h0), (1, .int u1), (2, .int u2)] → W p l e (headSpec (wsOf yX12_expr cX12_expr 5 (some .int)) ({ frames := n + 1 + 10, cells := 0, slots := 0, locals := 60 * (n + 1 + 10) } : Room)).room s m ([.ref h0] : List Value).toArray below meth c H locs 0 0 (MQ below (va_Qi (fun (x : Int32) (_ : Unit) => x = r9) (fun _ t_ => va_P (dC, dI) vwCl (mW cB cI cJ cZ h0 a cs9) t_.heap ∧ va_D A (mW cB cI cJ cZ h0 a cs9)) A) ([.ref h0] : List Value).toArray s 0 0 A) (F0 m 10 ls []) := by
    intro lf_10
    induction lf_10 with
    | zero => intro cs1 u1 u2 h; cases (show (none : Option (RS × Int32)) = _ from h)
    | succ lf_10 ih_10 =>
      intro cs1 u1 u2 h H locs ls hP hD hS hl
      rw [m_expr_L10] at h
      refine lv_aload_n hx hb dX12_expr_10 rfl (lv_at hl 0 rfl) ?_
      refine fg_21 hx hb hts hown hK hP dX12_expr_11 ?_
      refine lv_if_eq (tgt := 69) hx hb dX12_expr_14 (by decide) (fun c_1 => ?_) (fun c_1 => ?_)
      · skip
        replace h := (if_pos c_1).symm.trans h
        exact B_69 cs1 u1 u2 h _ _ _ hP hD hS (lv_sub hl [0, 1, 2] rfl)
      · skip
        replace h := (if_neg c_1).symm.trans h
        refine lv_aload_n hx hb dX12_expr_17 rfl (lv_at hl 0 rfl) ?_
        refine va_ldcSW (own := RX12) (index := 387) (tx := soT 24) (q := K 24) hx hb hown (hZ.ref 24 (by decide)) dX12_expr_18 ?_
        obtain ⟨v_2, hv_2, h⟩ := ob h
        refine calI (As := [.ref (K 24)]) hx hb hml hts hown hK hP hD hS hA hZ (s_isWord l dC dI cB cI cJ cZ h0 a K V fz F cs1 24 (by decide) v_2 hv_2) (cw_isWord hts (fr := 7) (by show 7 + 1 ≤ n + 1 + 10; omega) (by show 8 + (2 + 11) + 60 * (7) ≤ 60 * (n + 1 + 10); omega)) rfl hl.1 (Nat.le_of_ble_eq_true rfl) ⟨Nat.zero_le _, Nat.zero_le _⟩ dX12_expr_21 (fun H locs hP hD hS => ?_)
        refine lv_if_eq (tgt := 69) hx hb dX12_expr_24 (by decide) (fun c_3 => ?_) (fun c_3 => ?_)
        · skip
          replace h := (if_pos c_3).symm.trans h
          exact B_69 cs1 u1 u2 h _ _ _ hP hD hS (lv_sub hl [0, 1, 2] rfl)
        · skip
          replace h := (if_neg c_3).symm.trans h
          refine lv_aload_n hx hb dX12_expr_27 rfl (lv_at hl 0 rfl) ?_
          refine fg_15 hx hb hts hown hK hP dX12_expr_28 ?_
          refine lv_aload_n hx hb dX12_expr_31 rfl (lv_at hl 0 rfl) ?_
          refine fg_18 hx hb hts hown hK hP dX12_expr_32 ?_
          obtain ⟨v_4, hv_4, h⟩ := ob h
          refine ag_15 hx hb hK hP hv_4 dX12_expr_35 ?_
          refine lv_istore_n (lv' := [(3, .int v_4), (0, .ref h0), (1, .int u1), (2, .int u2)]) hx hb dX12_expr_36 rfl hl (by decide) rfl (fun ls hl => ?_)
          refine lv_aload_n hx hb dX12_expr_37 rfl (lv_at hl 1 rfl) ?_
          refine lv_dup hx hb dX12_expr_38 rfl ?_
          refine fg_18 hx hb hts hown hK hP dX12_expr_39 ?_
          refine lv_iconst (v := 1) hx hb dX12_expr_42 (by decide) ?_
          refine lv_iadd hx hb dX12_expr_43 ?_
          refine fp_18 hx hb hts hown hK hP hD hS dX12_expr_44 (fun H locs hP hD hS => ?_)
          refine lv_aload_n hx hb dX12_expr_47 rfl (lv_at hl 1 rfl) ?_
          obtain ⟨z_5, hv_5, h⟩ := ob h
          refine calI (As := []) hx hb hml hts hown hK hP hD hS hA hZ (hT_andExpr (setF cs1 18 ((cs1.1 18) + 1))  z_5.1 z_5.2 hv_5) (cw_andExpr hts (fr := n + 10) (by show n + 10 + 1 ≤ n + 1 + 10; omega) (by show 8 + (5 + 11) + 60 * (n + 10) ≤ 60 * (n + 1 + 10); omega)) rfl hl.1 (Nat.le_of_ble_eq_true rfl) ⟨Nat.zero_le _, Nat.zero_le _⟩ dX12_expr_48 (fun H locs hP hD hS => ?_)
          refine lv_istore (lv' := [(4, .int z_5.2), (3, .int v_4), (0, .ref h0), (1, .int u1), (2, .int u2)]) hx hb dX12_expr_51 hl (by decide) rfl (fun ls hl => ?_)
          refine lv_aload_n hx hb dX12_expr_53 rfl (lv_at hl 2 rfl) ?_
          refine lv_bipush (v := 7) hx hb dX12_expr_54 (by decide) ?_
          refine lv_iload_n hx hb dX12_expr_56 rfl (lv_at hl 3 rfl) ?_
          refine lv_iload hx hb dX12_expr_57 (lv_at hl 0 rfl) ?_
          refine lv_iconst (v := (-1)) hx hb dX12_expr_59 (by decide) ?_
          refine lv_iload_n hx hb dX12_expr_60 rfl (lv_at hl 4 rfl) ?_
          refine lv_iload_n hx hb dX12_expr_61 rfl (lv_at hl 1 rfl) ?_
          obtain ⟨z_6, hv_6, h⟩ := ob h
          refine calI (As := [.int 7, .int u1, .int z_5.2, .int (-1), .int u2, .int v_4]) hx hb hml hts hown hK hP hD hS hA hZ (s_make l dC dI cB cI cJ cZ h0 a K V fz F z_5.1 7 u1 z_5.2 (-1) u2 v_4 z_6.1 z_6.2 hv_6) (cw_make hts (fr := 1) (by show 1 + 1 ≤ n + 1 + 10; omega) (by show 8 + (8 + 11) + 60 * (1) ≤ 60 * (n + 1 + 10); omega)) rfl hl.1 (Nat.le_of_ble_eq_true rfl) ⟨Nat.zero_le _, Nat.zero_le _⟩ dX12_expr_62 (fun H locs hP hD hS => ?_)
          refine lv_istore_n (lv' := [(1, .int z_6.2), (4, .int z_5.2), (3, .int v_4), (0, .ref h0), (2, .int u2)]) hx hb dX12_expr_65 rfl hl (by decide) rfl (fun ls hl => ?_)
          refine lv_goto (tgt := 10) hx hb dX12_expr_66 (by decide) ?_
          exact ih_10 z_6.1 z_6.2 u2 h _ _ _ hP hD hS (lv_sub hl [3, 0, 4] rfl)
  have h := hf
  unfold b_expr at h
  refine lv_aload_n hx hb dX12_expr_0 rfl (lv_at hl 0 rfl) ?_
  obtain ⟨z_7, hv_7, h⟩ := ob h
  refine calI (As := []) hx hb hml hts hown hK hP hD hS hA hZ (hT_andExpr cs  z_7.1 z_7.2 hv_7) (cw_andExpr hts (fr := n + 10) (by show n + 10 + 1 ≤ n + 1 + 10; omega) (by show 8 + (5 + 11) + 60 * (n + 10) ≤ 60 * (n + 1 + 10); omega)) rfl hl.1 (Nat.le_of_ble_eq_true rfl) ⟨Nat.zero_le _, Nat.zero_le _⟩ dX12_expr_1 (fun H locs hP hD hS => ?_)
  refine lv_istore_n (lv' := [(1, .int z_7.2), (0, .ref h0)]) hx hb dX12_expr_4 rfl hl (by decide) rfl (fun ls hl => ?_)
  refine lv_aload_n hx hb dX12_expr_5 rfl (lv_at hl 1 rfl) ?_
  refine fg_74 hx hb hts hown hK hP dX12_expr_6 ?_
  refine lv_istore_n (lv' := [(2, .int (z_7.1.1 74)), (1, .int z_7.2), (0, .ref h0)]) hx hb dX12_expr_9 rfl hl (by decide) rfl (fun ls hl => ?_)
  exact L_10 F z_7.1 z_7.2 (z_7.1.1 74) h _ _ _ hP hD hS (lv_sub hl [2, 1, 0] rfl)
set_option maxHeartbeats 4000000 in
set_option maxRecDepth 100000 in
theorem sb_andExpr (l : Launch) (dC : Nat → ClassId) (dI : Nat → Nat → Nat) (cB cI cJ cZ : ClassId) (h0 : Nat) (a : Nat → Nat) (K V : Nat → Nat) (fz : Value) (F : Nat) (n : Nat) (T : TG_expr) (hT_expr : ∀ (cs : RS) (cs9 : RS) (r9 : Int32), T.1 cs = some (cs9, r9) → okI l dC dI cB cI cJ cZ h0 a K V fz yX12_expr (wsOf yX12_expr cX12_expr 5 (some .int)) (n + 10) [.ref h0] cs cs9 r9) (hT_andExpr : ∀ (cs : RS) (cs9 : RS) (r9 : Int32), T.2.1 cs = some (cs9, r9) → okI l dC dI cB cI cJ cZ h0 a K V fz yX12_andExpr (wsOf yX12_andExpr cX12_andExpr 5 (some .int)) (n + 10) [.ref h0] cs cs9 r9) (hT_notExpr : ∀ (cs : RS) (cs9 : RS) (r9 : Int32), T.2.2.1 cs = some (cs9, r9) → okI l dC dI cB cI cJ cZ h0 a K V fz yX12_notExpr (wsOf yX12_notExpr cX12_notExpr 3 (some .int)) (n + 10) [.ref h0] cs cs9 r9) (hT_test : ∀ (cs : RS) (cs9 : RS) (r9 : Int32), T.2.2.2.1 cs = some (cs9, r9) → okI l dC dI cB cI cJ cZ h0 a K V fz yX12_test (wsOf yX12_test cX12_test 11 (some .int)) (n + 10) [.ref h0] cs cs9 r9) (hT_sum : ∀ (cs : RS) (cs9 : RS) (r9 : Int32), T.2.2.2.2.1 cs = some (cs9, r9) → okI l dC dI cB cI cJ cZ h0 a K V fz yX12_sum (wsOf yX12_sum cX12_sum 6 (some .int)) (n + 10) [.ref h0] cs cs9 r9) (hT_part : ∀ (cs : RS) (cs9 : RS) (r9 : Int32), T.2.2.2.2.2.1 cs = some (cs9, r9) → okI l dC dI cB cI cJ cZ h0 a K V fz yX12_part (wsOf yX12_part cX12_part 6 (some .int)) (n + 10) [.ref h0] cs cs9 r9) (hT_sign : ∀ (cs : RS) (cs9 : RS) (r9 : Int32), T.2.2.2.2.2.2.1 cs = some (cs9, r9) → okI l dC dI cB cI cJ cZ h0 a K V fz yX12_sign (wsOf yX12_sign cX12_sign 3 (some .int)) (n + 10) [.ref h0] cs cs9 r9) (hT_one : ∀ (cs : RS) (cs9 : RS) (r9 : Int32), T.2.2.2.2.2.2.2.1 cs = some (cs9, r9) → okI l dC dI cB cI cJ cZ h0 a K V fz yX12_one (wsOf yX12_one cX12_one 6 (some .int)) (n + 10) [.ref h0] cs cs9 r9) (hT_aggregate : ∀ (cs : RS) (x1 : Int32) (cs9 : RS) (r9 : Int32), T.2.2.2.2.2.2.2.2 cs x1 = some (cs9, r9) → okI l dC dI cB cI cJ cZ h0 a K V fz yX12_aggregate (wsOf yX12_aggregate cX12_aggregate 4 (some .int)) (n + 10) [.ref h0, .int x1] cs cs9 r9) (cs : RS) (cs9 : RS) (r9 : Int32) (hf : b_andExpr F T cs = some (cs9, r9)) : okI l dC dI cB cI cJ cZ h0 a K V fz yX12_andExpr (wsOf yX12_andExpr cX12_andExpr 5 (some .int)) (n + 1 + 10) [.ref h0] cs cs9 r9 := by
  intro sz
  refine Met.ofW (cc := cX12_andExpr) (maxL := 5) (ret := (some .int)) (by decide) rfl ?_
  intro p e s m args below meth c s₁ B hml hv
  obtain ⟨rfl, hsz, hP, hK, hD0, hZ⟩ := hv
  have hx := B.exec
  have hb := B.bytes
  have hr := B.returns
  have hts := atoms_spec (ws := (wsOf yX12_andExpr cX12_andExpr 5 (some .int))) B.pre
  have hown : s.vm.findClass RX12 = some m.cls := findClass_of_methodNamed B.named
  have hlocks := B.notSynchronized
  subst hsz
  have hD := hD0.self (sz := s.heap.size)
  generalize hAe : va_A (mW cB cI cJ cZ h0 a cs) s.heap.size = A at hD hZ ⊢
  have hA : ∀ q : Nat, s.heap.size ≤ q → A q := fun q h => by rw [← hAe]; exact Or.inr h
  have hS : va_S A s.heap s.heap [] := va_S.rf
  have hl := lv_entry ([.ref h0]) (n := 5) (Nat.le_of_ble_eq_true rfl)
  rw [lg_entry_eq]
  generalize (lg_sl ([.ref h0]) ++ List.replicate (5 - (lg_sl ([.ref h0])).length) Slot.unset).toArray = ls at hl ⊢
  have hl : lv_has ls 5 [(0, .ref h0)] := hl
  have B_69 : ∀ (cs1 : RS) (u1 : Int32) (u2 : Int32), m_andExpr_b69 F T cs1 u1 u2 = some (cs9, r9) → ∀ (H : Heap) (locs : List Loc) (ls : Array Slot), va_P (dC, dI) vwCl (mW cB cI cJ cZ h0 a cs1) H → va_D A (mW cB cI cJ cZ h0 a cs1) → va_S A s.heap H locs → lv_has ls 5 [(0, .ref h0), (1, .int u1), (2, .int u2)] → W p l e (headSpec (wsOf yX12_andExpr cX12_andExpr 5 (some .int)) ({ frames := n + 1 + 10, cells := 0, slots := 0, locals := 60 * (n + 1 + 10) } : Room)).room s m ([.ref h0] : List Value).toArray below meth c H locs 0 0 (MQ below (va_Qi (fun (x : Int32) (_ : Unit) => x = r9) (fun _ t_ => va_P (dC, dI) vwCl (mW cB cI cJ cZ h0 a cs9) t_.heap ∧ va_D A (mW cB cI cJ cZ h0 a cs9)) A) ([.ref h0] : List Value).toArray s 0 0 A) (F0 m 69 ls []) := by
    intro cs1 u1 u2 h H locs ls hP hD hS hl
    unfold m_andExpr_b69 at h
    refine lv_aload_n hx hb dX12_andExpr_69 rfl (lv_at hl 0 rfl) ?_
    refine lv_iload_n hx hb dX12_andExpr_70 rfl (lv_at hl 2 rfl) ?_
    refine fp_74 hx hb hts hown hK hP hD hS dX12_andExpr_71 (fun H locs hP hD hS => ?_)
    refine lv_iload_n hx hb dX12_andExpr_74 rfl (lv_at hl 1 rfl) ?_
    obtain ⟨e1, e2⟩ := Prod.mk.inj (Option.some.inj h)
    rw [e1] at hP hD
    exact W.iret (v := u1) hx hb hr (fun t_ ht hW => ⟨⟨u1, (), rfl, e2, by rw [ht]; exact hP, hD⟩, hS.F ht⟩) hS.2.2 dX12_andExpr_75
  have L_10 : ∀ (lf_10 : Nat), ∀ (cs1 : RS) (u1 : Int32) (u2 : Int32), m_andExpr_L10 F T lf_10 cs1 u1 u2 = some (cs9, r9) → ∀ (H : Heap) (locs : List Loc) (ls : Array Slot), va_P (dC, dI) vwCl (mW cB cI cJ cZ h0 a cs1) H → va_D A (mW cB cI cJ cZ h0 a cs1) → va_S A s.heap H locs → lv_has ls 5 [(0, .ref h0), (1, .int u1), (2, .int u2)] → W p l e (headSpec (wsOf yX12_andExpr cX12_andExpr 5 (some .int)) ({ frames := n + 1 + 10, cells := 0, slots := 0, locals := 60 * (n + 1 + 10) } : Room)).room s m ([.ref h0] : List Value).toArray below meth c H locs 0 0 (MQ below (va_Qi (fun (x : Int32) (_ : Unit) => x = r9) (fun _ t_ => va_P (dC, dI) vwCl (mW cB cI cJ cZ h0 a cs9) t_.heap ∧ va_D A (mW cB cI cJ cZ h0 a cs9)) A) ([.ref h0] : List Value).toArray s 0 0 A) (F0 m 10 ls []) := by
    intro lf_10
    induction lf_10 with
    | zero => intro cs1 u1 u2 h; cases (show (none : Option (RS × Int32)) = _ from h)
    | succ lf_10 ih_10 =>
      intro cs1 u1 u2 h H locs ls hP hD hS hl
      rw [m_andExpr_L10] at h
      refine lv_aload_n hx hb dX12_andExpr_10 rfl (lv_at hl 0 rfl) ?_
      refine fg_21 hx hb hts hown hK hP dX12_andExpr_11 ?_
      refine lv_if_eq (tgt := 69) hx hb dX12_andExpr_14 (by decide) (fun c_1 => ?_) (fun c_1 => ?_)
      · skip
        replace h := (if_pos c_1).symm.trans h
        exact B_69 cs1 u1 u2 h _ _ _ hP hD hS (lv_sub hl [0, 1, 2] rfl)
      · skip
        replace h := (if_neg c_1).symm.trans h
        refine lv_aload_n hx hb dX12_andExpr_17 rfl (lv_at hl 0 rfl) ?_
        refine va_ldcSW (own := RX12) (index := 396) (tx := soT 23) (q := K 23) hx hb hown (hZ.ref 23 (by decide)) dX12_andExpr_18 ?_
        obtain ⟨v_2, hv_2, h⟩ := ob h
        refine calI (As := [.ref (K 23)]) hx hb hml hts hown hK hP hD hS hA hZ (s_isWord l dC dI cB cI cJ cZ h0 a K V fz F cs1 23 (by decide) v_2 hv_2) (cw_isWord hts (fr := 7) (by show 7 + 1 ≤ n + 1 + 10; omega) (by show 8 + (2 + 11) + 60 * (7) ≤ 60 * (n + 1 + 10); omega)) rfl hl.1 (Nat.le_of_ble_eq_true rfl) ⟨Nat.zero_le _, Nat.zero_le _⟩ dX12_andExpr_21 (fun H locs hP hD hS => ?_)
        refine lv_if_eq (tgt := 69) hx hb dX12_andExpr_24 (by decide) (fun c_3 => ?_) (fun c_3 => ?_)
        · skip
          replace h := (if_pos c_3).symm.trans h
          exact B_69 cs1 u1 u2 h _ _ _ hP hD hS (lv_sub hl [0, 1, 2] rfl)
        · skip
          replace h := (if_neg c_3).symm.trans h
          refine lv_aload_n hx hb dX12_andExpr_27 rfl (lv_at hl 0 rfl) ?_
          refine fg_15 hx hb hts hown hK hP dX12_andExpr_28 ?_
          refine lv_aload_n hx hb dX12_andExpr_31 rfl (lv_at hl 0 rfl) ?_
          refine fg_18 hx hb hts hown hK hP dX12_andExpr_32 ?_
          obtain ⟨v_4, hv_4, h⟩ := ob h
          refine ag_15 hx hb hK hP hv_4 dX12_andExpr_35 ?_
          refine lv_istore_n (lv' := [(3, .int v_4), (0, .ref h0), (1, .int u1), (2, .int u2)]) hx hb dX12_andExpr_36 rfl hl (by decide) rfl (fun ls hl => ?_)
          refine lv_aload_n hx hb dX12_andExpr_37 rfl (lv_at hl 1 rfl) ?_
          refine lv_dup hx hb dX12_andExpr_38 rfl ?_
          refine fg_18 hx hb hts hown hK hP dX12_andExpr_39 ?_
          refine lv_iconst (v := 1) hx hb dX12_andExpr_42 (by decide) ?_
          refine lv_iadd hx hb dX12_andExpr_43 ?_
          refine fp_18 hx hb hts hown hK hP hD hS dX12_andExpr_44 (fun H locs hP hD hS => ?_)
          refine lv_aload_n hx hb dX12_andExpr_47 rfl (lv_at hl 1 rfl) ?_
          obtain ⟨z_5, hv_5, h⟩ := ob h
          refine calI (As := []) hx hb hml hts hown hK hP hD hS hA hZ (hT_notExpr (setF cs1 18 ((cs1.1 18) + 1))  z_5.1 z_5.2 hv_5) (cw_notExpr hts (fr := n + 10) (by show n + 10 + 1 ≤ n + 1 + 10; omega) (by show 8 + (3 + 11) + 60 * (n + 10) ≤ 60 * (n + 1 + 10); omega)) rfl hl.1 (Nat.le_of_ble_eq_true rfl) ⟨Nat.zero_le _, Nat.zero_le _⟩ dX12_andExpr_48 (fun H locs hP hD hS => ?_)
          refine lv_istore (lv' := [(4, .int z_5.2), (3, .int v_4), (0, .ref h0), (1, .int u1), (2, .int u2)]) hx hb dX12_andExpr_51 hl (by decide) rfl (fun ls hl => ?_)
          refine lv_aload_n hx hb dX12_andExpr_53 rfl (lv_at hl 2 rfl) ?_
          refine lv_bipush (v := 6) hx hb dX12_andExpr_54 (by decide) ?_
          refine lv_iload_n hx hb dX12_andExpr_56 rfl (lv_at hl 3 rfl) ?_
          refine lv_iload hx hb dX12_andExpr_57 (lv_at hl 0 rfl) ?_
          refine lv_iconst (v := (-1)) hx hb dX12_andExpr_59 (by decide) ?_
          refine lv_iload_n hx hb dX12_andExpr_60 rfl (lv_at hl 4 rfl) ?_
          refine lv_iload_n hx hb dX12_andExpr_61 rfl (lv_at hl 1 rfl) ?_
          obtain ⟨z_6, hv_6, h⟩ := ob h
          refine calI (As := [.int 6, .int u1, .int z_5.2, .int (-1), .int u2, .int v_4]) hx hb hml hts hown hK hP hD hS hA hZ (s_make l dC dI cB cI cJ cZ h0 a K V fz F z_5.1 6 u1 z_5.2 (-1) u2 v_4 z_6.1 z_6.2 hv_6) (cw_make hts (fr := 1) (by show 1 + 1 ≤ n + 1 + 10; omega) (by show 8 + (8 + 11) + 60 * (1) ≤ 60 * (n + 1 + 10); omega)) rfl hl.1 (Nat.le_of_ble_eq_true rfl) ⟨Nat.zero_le _, Nat.zero_le _⟩ dX12_andExpr_62 (fun H locs hP hD hS => ?_)
          refine lv_istore_n (lv' := [(1, .int z_6.2), (4, .int z_5.2), (3, .int v_4), (0, .ref h0), (2, .int u2)]) hx hb dX12_andExpr_65 rfl hl (by decide) rfl (fun ls hl => ?_)
          refine lv_goto (tgt := 10) hx hb dX12_andExpr_66 (by decide) ?_
          exact ih_10 z_6.1 z_6.2 u2 h _ _ _ hP hD hS (lv_sub hl [3, 0, 4] rfl)
  have h := hf
  unfold b_andExpr at h
  refine lv_aload_n hx hb dX12_andExpr_0 rfl (lv_at hl 0 rfl) ?_
  obtain ⟨z_7, hv_7, h⟩ := ob h
  refine calI (As := []) hx hb hml hts hown hK hP hD hS hA hZ (hT_notExpr cs  z_7.1 z_7.2 hv_7) (cw_notExpr hts (fr := n + 10) (by show n + 10 + 1 ≤ n + 1 + 10; omega) (by show 8 + (3 + 11) + 60 * (n + 10) ≤ 60 * (n + 1 + 10); omega)) rfl hl.1 (Nat.le_of_ble_eq_true rfl) ⟨Nat.zero_le _, Nat.zero_le _⟩ dX12_andExpr_1 (fun H locs hP hD hS => ?_)
  refine lv_istore_n (lv' := [(1, .int z_7.2), (0, .ref h0)]) hx hb dX12_andExpr_4 rfl hl (by decide) rfl (fun ls hl => ?_)
  refine lv_aload_n hx hb dX12_andExpr_5 rfl (lv_at hl 1 rfl) ?_
  refine fg_74 hx hb hts hown hK hP dX12_andExpr_6 ?_
  refine lv_istore_n (lv' := [(2, .int (z_7.1.1 74)), (1, .int z_7.2), (0, .ref h0)]) hx hb dX12_andExpr_9 rfl hl (by decide) rfl (fun ls hl => ?_)
  exact L_10 F z_7.1 z_7.2 (z_7.1.1 74) h _ _ _ hP hD hS (lv_sub hl [2, 1, 0] rfl)
set_option maxHeartbeats 4000000 in
set_option maxRecDepth 100000 in
theorem sb_notExpr (l : Launch) (dC : Nat → ClassId) (dI : Nat → Nat → Nat) (cB cI cJ cZ : ClassId) (h0 : Nat) (a : Nat → Nat) (K V : Nat → Nat) (fz : Value) (F : Nat) (n : Nat) (T : TG_expr) (hT_expr : ∀ (cs : RS) (cs9 : RS) (r9 : Int32), T.1 cs = some (cs9, r9) → okI l dC dI cB cI cJ cZ h0 a K V fz yX12_expr (wsOf yX12_expr cX12_expr 5 (some .int)) (n + 10) [.ref h0] cs cs9 r9) (hT_andExpr : ∀ (cs : RS) (cs9 : RS) (r9 : Int32), T.2.1 cs = some (cs9, r9) → okI l dC dI cB cI cJ cZ h0 a K V fz yX12_andExpr (wsOf yX12_andExpr cX12_andExpr 5 (some .int)) (n + 10) [.ref h0] cs cs9 r9) (hT_notExpr : ∀ (cs : RS) (cs9 : RS) (r9 : Int32), T.2.2.1 cs = some (cs9, r9) → okI l dC dI cB cI cJ cZ h0 a K V fz yX12_notExpr (wsOf yX12_notExpr cX12_notExpr 3 (some .int)) (n + 10) [.ref h0] cs cs9 r9) (hT_test : ∀ (cs : RS) (cs9 : RS) (r9 : Int32), T.2.2.2.1 cs = some (cs9, r9) → okI l dC dI cB cI cJ cZ h0 a K V fz yX12_test (wsOf yX12_test cX12_test 11 (some .int)) (n + 10) [.ref h0] cs cs9 r9) (hT_sum : ∀ (cs : RS) (cs9 : RS) (r9 : Int32), T.2.2.2.2.1 cs = some (cs9, r9) → okI l dC dI cB cI cJ cZ h0 a K V fz yX12_sum (wsOf yX12_sum cX12_sum 6 (some .int)) (n + 10) [.ref h0] cs cs9 r9) (hT_part : ∀ (cs : RS) (cs9 : RS) (r9 : Int32), T.2.2.2.2.2.1 cs = some (cs9, r9) → okI l dC dI cB cI cJ cZ h0 a K V fz yX12_part (wsOf yX12_part cX12_part 6 (some .int)) (n + 10) [.ref h0] cs cs9 r9) (hT_sign : ∀ (cs : RS) (cs9 : RS) (r9 : Int32), T.2.2.2.2.2.2.1 cs = some (cs9, r9) → okI l dC dI cB cI cJ cZ h0 a K V fz yX12_sign (wsOf yX12_sign cX12_sign 3 (some .int)) (n + 10) [.ref h0] cs cs9 r9) (hT_one : ∀ (cs : RS) (cs9 : RS) (r9 : Int32), T.2.2.2.2.2.2.2.1 cs = some (cs9, r9) → okI l dC dI cB cI cJ cZ h0 a K V fz yX12_one (wsOf yX12_one cX12_one 6 (some .int)) (n + 10) [.ref h0] cs cs9 r9) (hT_aggregate : ∀ (cs : RS) (x1 : Int32) (cs9 : RS) (r9 : Int32), T.2.2.2.2.2.2.2.2 cs x1 = some (cs9, r9) → okI l dC dI cB cI cJ cZ h0 a K V fz yX12_aggregate (wsOf yX12_aggregate cX12_aggregate 4 (some .int)) (n + 10) [.ref h0, .int x1] cs cs9 r9) (cs : RS) (cs9 : RS) (r9 : Int32) (hf : b_notExpr F T cs = some (cs9, r9)) : okI l dC dI cB cI cJ cZ h0 a K V fz yX12_notExpr (wsOf yX12_notExpr cX12_notExpr 3 (some .int)) (n + 1 + 10) [.ref h0] cs cs9 r9 := by
  intro sz
  refine Met.ofW (cc := cX12_notExpr) (maxL := 3) (ret := (some .int)) (by decide) rfl ?_
  intro p e s m args below meth c s₁ B hml hv
  obtain ⟨rfl, hsz, hP, hK, hD0, hZ⟩ := hv
  have hx := B.exec
  have hb := B.bytes
  have hr := B.returns
  have hts := atoms_spec (ws := (wsOf yX12_notExpr cX12_notExpr 3 (some .int))) B.pre
  have hown : s.vm.findClass RX12 = some m.cls := findClass_of_methodNamed B.named
  have hlocks := B.notSynchronized
  subst hsz
  have hD := hD0.self (sz := s.heap.size)
  generalize hAe : va_A (mW cB cI cJ cZ h0 a cs) s.heap.size = A at hD hZ ⊢
  have hA : ∀ q : Nat, s.heap.size ≤ q → A q := fun q h => by rw [← hAe]; exact Or.inr h
  have hS : va_S A s.heap s.heap [] := va_S.rf
  have hl := lv_entry ([.ref h0]) (n := 3) (Nat.le_of_ble_eq_true rfl)
  rw [lg_entry_eq]
  generalize (lg_sl ([.ref h0]) ++ List.replicate (3 - (lg_sl ([.ref h0])).length) Slot.unset).toArray = ls at hl ⊢
  have hl : lv_has ls 3 [(0, .ref h0)] := hl
  have B_55 : ∀ (cs1 : RS) (u1 : Int32) (y0 : Int32), m_notExpr_b55 F T cs1 u1 y0 = some (cs9, r9) → ∀ (H : Heap) (locs : List Loc) (ls : Array Slot), va_P (dC, dI) vwCl (mW cB cI cJ cZ h0 a cs1) H → va_D A (mW cB cI cJ cZ h0 a cs1) → va_S A s.heap H locs → lv_has ls 3 [(0, .ref h0), (1, .int u1)] → W p l e (headSpec (wsOf yX12_notExpr cX12_notExpr 3 (some .int)) ({ frames := n + 1 + 10, cells := 0, slots := 0, locals := 60 * (n + 1 + 10) } : Room)).room s m ([.ref h0] : List Value).toArray below meth c H locs 0 0 (MQ below (va_Qi (fun (x : Int32) (_ : Unit) => x = r9) (fun _ t_ => va_P (dC, dI) vwCl (mW cB cI cJ cZ h0 a cs9) t_.heap ∧ va_D A (mW cB cI cJ cZ h0 a cs9)) A) ([.ref h0] : List Value).toArray s 0 0 A) (F0 m 55 ls [.int y0]) := by
    intro cs1 u1 y0 h H locs ls hP hD hS hl
    unfold m_notExpr_b55 at h
    refine lv_istore_n (lv' := [(2, .int y0), (0, .ref h0), (1, .int u1)]) hx hb dX12_notExpr_55 rfl hl (by decide) rfl (fun ls hl => ?_)
    refine lv_aload_n hx hb dX12_notExpr_56 rfl (lv_at hl 1 rfl) ?_
    refine lv_dup hx hb dX12_notExpr_57 rfl ?_
    refine fg_70 hx hb hts hown hK hP dX12_notExpr_58 ?_
    refine lv_iconst (v := 1) hx hb dX12_notExpr_61 (by decide) ?_
    refine lv_isub hx hb dX12_notExpr_62 ?_
    refine fp_70 hx hb hts hown hK hP hD hS dX12_notExpr_63 (fun H locs hP hD hS => ?_)
    refine lv_aload_n hx hb dX12_notExpr_66 rfl (lv_at hl 1 rfl) ?_
    refine lv_bipush (v := 8) hx hb dX12_notExpr_67 (by decide) ?_
    refine lv_iload_n hx hb dX12_notExpr_69 rfl (lv_at hl 0 rfl) ?_
    refine lv_iconst (v := (-1)) hx hb dX12_notExpr_70 (by decide) ?_
    refine lv_iconst (v := (-1)) hx hb dX12_notExpr_71 (by decide) ?_
    refine lv_iload_n hx hb dX12_notExpr_72 rfl (lv_at hl 2 rfl) ?_
    refine lv_iload_n hx hb dX12_notExpr_73 rfl (lv_at hl 2 rfl) ?_
    obtain ⟨z_1, hv_1, h⟩ := ob h
    refine calI (As := [.int 8, .int y0, .int (-1), .int (-1), .int u1, .int u1]) hx hb hml hts hown hK hP hD hS hA hZ (s_make l dC dI cB cI cJ cZ h0 a K V fz F (setF cs1 70 ((cs1.1 70) - 1)) 8 y0 (-1) (-1) u1 u1 z_1.1 z_1.2 hv_1) (cw_make hts (fr := 1) (by show 1 + 1 ≤ n + 1 + 10; omega) (by show 8 + (8 + 11) + 60 * (1) ≤ 60 * (n + 1 + 10); omega)) rfl hl.1 (Nat.le_of_ble_eq_true rfl) ⟨Nat.zero_le _, Nat.zero_le _⟩ dX12_notExpr_74 (fun H locs hP hD hS => ?_)
    refine lv_istore_n (lv' := [(2, .int z_1.2), (0, .ref h0), (1, .int u1)]) hx hb dX12_notExpr_77 rfl hl (by decide) rfl (fun ls hl => ?_)
    refine lv_aload_n hx hb dX12_notExpr_78 rfl (lv_at hl 1 rfl) ?_
    refine lv_iload_n hx hb dX12_notExpr_79 rfl (lv_at hl 2 rfl) ?_
    refine fp_74 hx hb hts hown hK hP hD hS dX12_notExpr_80 (fun H locs hP hD hS => ?_)
    refine lv_iload_n hx hb dX12_notExpr_83 rfl (lv_at hl 0 rfl) ?_
    obtain ⟨e1, e2⟩ := Prod.mk.inj (Option.some.inj h)
    rw [e1] at hP hD
    exact W.iret (v := z_1.2) hx hb hr (fun t_ ht hW => ⟨⟨z_1.2, (), rfl, e2, by rw [ht]; exact hP, hD⟩, hS.F ht⟩) hS.2.2 dX12_notExpr_84
  have h := hf
  unfold b_notExpr at h
  refine lv_aload_n hx hb dX12_notExpr_0 rfl (lv_at hl 0 rfl) ?_
  refine va_ldcSW (own := RX12) (index := 376) (tx := soT 16) (q := K 16) hx hb hown (hZ.ref 16 (by decide)) dX12_notExpr_1 ?_
  obtain ⟨v_2, hv_2, h⟩ := ob h
  refine calI (As := [.ref (K 16)]) hx hb hml hts hown hK hP hD hS hA hZ (s_isWord l dC dI cB cI cJ cZ h0 a K V fz F cs 16 (by decide) v_2 hv_2) (cw_isWord hts (fr := 7) (by show 7 + 1 ≤ n + 1 + 10; omega) (by show 8 + (2 + 11) + 60 * (7) ≤ 60 * (n + 1 + 10); omega)) rfl hl.1 (Nat.le_of_ble_eq_true rfl) ⟨Nat.zero_le _, Nat.zero_le _⟩ dX12_notExpr_4 (fun H locs hP hD hS => ?_)
  refine lv_if_ne (tgt := 15) hx hb dX12_notExpr_7 (by decide) (fun c_3 => ?_) (fun c_3 => ?_)
  · skip
    replace h := (if_neg c_3).symm.trans h
    refine lv_aload_n hx hb dX12_notExpr_15 rfl (lv_at hl 0 rfl) ?_
    refine fg_15 hx hb hts hown hK hP dX12_notExpr_16 ?_
    refine lv_aload_n hx hb dX12_notExpr_19 rfl (lv_at hl 0 rfl) ?_
    refine fg_18 hx hb hts hown hK hP dX12_notExpr_20 ?_
    obtain ⟨v_4, hv_4, h⟩ := ob h
    refine ag_15 hx hb hK hP hv_4 dX12_notExpr_23 ?_
    refine lv_istore_n (lv' := [(1, .int v_4), (0, .ref h0)]) hx hb dX12_notExpr_24 rfl hl (by decide) rfl (fun ls hl => ?_)
    refine lv_aload_n hx hb dX12_notExpr_25 rfl (lv_at hl 1 rfl) ?_
    refine lv_iload_n hx hb dX12_notExpr_26 rfl (lv_at hl 0 rfl) ?_
    obtain ⟨cs_5, hv_5, h⟩ := ob h
    refine calV (As := [.int v_4]) hx hb hml hts hown hK hP hD hS hA hZ (s_deeper l dC dI cB cI cJ cZ h0 a K V fz F cs v_4 cs_5 hv_5) (cw_deeper hts (fr := 1) (by show 1 + 1 ≤ n + 1 + 10; omega) (by show 8 + (2 + 11) + 60 * (1) ≤ 60 * (n + 1 + 10); omega)) rfl hl.1 (Nat.le_of_ble_eq_true rfl) ⟨Nat.zero_le _, Nat.zero_le _⟩ dX12_notExpr_27 (fun H locs hP hD hS => ?_)
    refine lv_aload_n hx hb dX12_notExpr_30 rfl (lv_at hl 1 rfl) ?_
    refine lv_dup hx hb dX12_notExpr_31 rfl ?_
    refine fg_18 hx hb hts hown hK hP dX12_notExpr_32 ?_
    refine lv_iconst (v := 1) hx hb dX12_notExpr_35 (by decide) ?_
    refine lv_iadd hx hb dX12_notExpr_36 ?_
    refine fp_18 hx hb hts hown hK hP hD hS dX12_notExpr_37 (fun H locs hP hD hS => ?_)
    refine lv_aload_n hx hb dX12_notExpr_40 rfl (lv_at hl 1 rfl) ?_
    refine fg_21 hx hb hts hown hK hP dX12_notExpr_41 ?_
    refine lv_if_eq (tgt := 54) hx hb dX12_notExpr_44 (by decide) (fun c_6 => ?_) (fun c_6 => ?_)
    · skip
      replace h := (if_pos c_6).symm.trans h
      refine lv_iconst (v := 0) hx hb dX12_notExpr_54 (by decide) ?_
      exact B_55 (setF cs_5 18 ((cs_5.1 18) + 1)) v_4 0 h _ _ _ hP hD hS (lv_sub hl [1, 0] rfl)
    · skip
      replace h := (if_neg c_6).symm.trans h
      refine lv_aload_n hx hb dX12_notExpr_47 rfl (lv_at hl 1 rfl) ?_
      obtain ⟨z_7, hv_7, h⟩ := ob h
      refine calI (As := []) hx hb hml hts hown hK hP hD hS hA hZ (hT_notExpr (setF cs_5 18 ((cs_5.1 18) + 1))  z_7.1 z_7.2 hv_7) (cw_notExpr hts (fr := n + 10) (by show n + 10 + 1 ≤ n + 1 + 10; omega) (by show 8 + (3 + 11) + 60 * (n + 10) ≤ 60 * (n + 1 + 10); omega)) rfl hl.1 (Nat.le_of_ble_eq_true rfl) ⟨Nat.zero_le _, Nat.zero_le _⟩ dX12_notExpr_48 (fun H locs hP hD hS => ?_)
      refine lv_goto (tgt := 55) hx hb dX12_notExpr_51 (by decide) ?_
      exact B_55 z_7.1 v_4 z_7.2 h _ _ _ hP hD hS (lv_sub hl [1, 0] rfl)
  · skip
    replace h := (if_pos c_3).symm.trans h
    refine lv_aload_n hx hb dX12_notExpr_10 rfl (lv_at hl 0 rfl) ?_
    obtain ⟨z_8, hv_8, h⟩ := ob h
    refine calI (As := []) hx hb hml hts hown hK hP hD hS hA hZ (hT_test cs  z_8.1 z_8.2 hv_8) (cw_test hts (fr := n + 10) (by show n + 10 + 1 ≤ n + 1 + 10; omega) (by show 8 + (11 + 11) + 60 * (n + 10) ≤ 60 * (n + 1 + 10); omega)) rfl hl.1 (Nat.le_of_ble_eq_true rfl) ⟨Nat.zero_le _, Nat.zero_le _⟩ dX12_notExpr_11 (fun H locs hP hD hS => ?_)
    obtain ⟨e1, e2⟩ := Prod.mk.inj (Option.some.inj h)
    rw [e1] at hP hD
    exact W.iret (v := z_8.2) hx hb hr (fun t_ ht hW => ⟨⟨z_8.2, (), rfl, e2, by rw [ht]; exact hP, hD⟩, hS.F ht⟩) hS.2.2 dX12_notExpr_14
set_option maxHeartbeats 4000000 in
set_option maxRecDepth 100000 in
theorem sb_test (l : Launch) (dC : Nat → ClassId) (dI : Nat → Nat → Nat) (cB cI cJ cZ : ClassId) (h0 : Nat) (a : Nat → Nat) (K V : Nat → Nat) (fz : Value) (F : Nat) (n : Nat) (T : TG_expr) (hT_expr : ∀ (cs : RS) (cs9 : RS) (r9 : Int32), T.1 cs = some (cs9, r9) → okI l dC dI cB cI cJ cZ h0 a K V fz yX12_expr (wsOf yX12_expr cX12_expr 5 (some .int)) (n + 10) [.ref h0] cs cs9 r9) (hT_andExpr : ∀ (cs : RS) (cs9 : RS) (r9 : Int32), T.2.1 cs = some (cs9, r9) → okI l dC dI cB cI cJ cZ h0 a K V fz yX12_andExpr (wsOf yX12_andExpr cX12_andExpr 5 (some .int)) (n + 10) [.ref h0] cs cs9 r9) (hT_notExpr : ∀ (cs : RS) (cs9 : RS) (r9 : Int32), T.2.2.1 cs = some (cs9, r9) → okI l dC dI cB cI cJ cZ h0 a K V fz yX12_notExpr (wsOf yX12_notExpr cX12_notExpr 3 (some .int)) (n + 10) [.ref h0] cs cs9 r9) (hT_test : ∀ (cs : RS) (cs9 : RS) (r9 : Int32), T.2.2.2.1 cs = some (cs9, r9) → okI l dC dI cB cI cJ cZ h0 a K V fz yX12_test (wsOf yX12_test cX12_test 11 (some .int)) (n + 10) [.ref h0] cs cs9 r9) (hT_sum : ∀ (cs : RS) (cs9 : RS) (r9 : Int32), T.2.2.2.2.1 cs = some (cs9, r9) → okI l dC dI cB cI cJ cZ h0 a K V fz yX12_sum (wsOf yX12_sum cX12_sum 6 (some .int)) (n + 10) [.ref h0] cs cs9 r9) (hT_part : ∀ (cs : RS) (cs9 : RS) (r9 : Int32), T.2.2.2.2.2.1 cs = some (cs9, r9) → okI l dC dI cB cI cJ cZ h0 a K V fz yX12_part (wsOf yX12_part cX12_part 6 (some .int)) (n + 10) [.ref h0] cs cs9 r9) (hT_sign : ∀ (cs : RS) (cs9 : RS) (r9 : Int32), T.2.2.2.2.2.2.1 cs = some (cs9, r9) → okI l dC dI cB cI cJ cZ h0 a K V fz yX12_sign (wsOf yX12_sign cX12_sign 3 (some .int)) (n + 10) [.ref h0] cs cs9 r9) (hT_one : ∀ (cs : RS) (cs9 : RS) (r9 : Int32), T.2.2.2.2.2.2.2.1 cs = some (cs9, r9) → okI l dC dI cB cI cJ cZ h0 a K V fz yX12_one (wsOf yX12_one cX12_one 6 (some .int)) (n + 10) [.ref h0] cs cs9 r9) (hT_aggregate : ∀ (cs : RS) (x1 : Int32) (cs9 : RS) (r9 : Int32), T.2.2.2.2.2.2.2.2 cs x1 = some (cs9, r9) → okI l dC dI cB cI cJ cZ h0 a K V fz yX12_aggregate (wsOf yX12_aggregate cX12_aggregate 4 (some .int)) (n + 10) [.ref h0, .int x1] cs cs9 r9) (cs : RS) (cs9 : RS) (r9 : Int32) (hf : b_test F T cs = some (cs9, r9)) : okI l dC dI cB cI cJ cZ h0 a K V fz yX12_test (wsOf yX12_test cX12_test 11 (some .int)) (n + 1 + 10) [.ref h0] cs cs9 r9 := by
  intro sz
  refine Met.ofW (cc := cX12_test) (maxL := 11) (ret := (some .int)) (by decide) rfl ?_
  intro p e s m args below meth c s₁ B hml hv
  obtain ⟨rfl, hsz, hP, hK, hD0, hZ⟩ := hv
  have hx := B.exec
  have hb := B.bytes
  have hr := B.returns
  have hts := atoms_spec (ws := (wsOf yX12_test cX12_test 11 (some .int))) B.pre
  have hown : s.vm.findClass RX12 = some m.cls := findClass_of_methodNamed B.named
  have hlocks := B.notSynchronized
  subst hsz
  have hD := hD0.self (sz := s.heap.size)
  generalize hAe : va_A (mW cB cI cJ cZ h0 a cs) s.heap.size = A at hD hZ ⊢
  have hA : ∀ q : Nat, s.heap.size ≤ q → A q := fun q h => by rw [← hAe]; exact Or.inr h
  have hS : va_S A s.heap s.heap [] := va_S.rf
  have hl := lv_entry ([.ref h0]) (n := 11) (Nat.le_of_ble_eq_true rfl)
  rw [lg_entry_eq]
  generalize (lg_sl ([.ref h0]) ++ List.replicate (11 - (lg_sl ([.ref h0])).length) Slot.unset).toArray = ls at hl ⊢
  have hl : lv_has ls 11 [(0, .ref h0)] := hl
  have B_371 : ∀ (cs1 : RS) (u1 : Int32) (u2 : Int32), m_test_b371 F T cs1 u1 u2 = some (cs9, r9) → ∀ (H : Heap) (locs : List Loc) (ls : Array Slot), va_P (dC, dI) vwCl (mW cB cI cJ cZ h0 a cs1) H → va_D A (mW cB cI cJ cZ h0 a cs1) → va_S A s.heap H locs → lv_has ls 11 [(0, .ref h0), (1, .int u1), (2, .int u2)] → W p l e (headSpec (wsOf yX12_test cX12_test 11 (some .int)) ({ frames := n + 1 + 10, cells := 0, slots := 0, locals := 60 * (n + 1 + 10) } : Room)).room s m ([.ref h0] : List Value).toArray below meth c H locs 0 0 (MQ below (va_Qi (fun (x : Int32) (_ : Unit) => x = r9) (fun _ t_ => va_P (dC, dI) vwCl (mW cB cI cJ cZ h0 a cs9) t_.heap ∧ va_D A (mW cB cI cJ cZ h0 a cs9)) A) ([.ref h0] : List Value).toArray s 0 0 A) (F0 m 371 ls []) := by
    intro cs1 u1 u2 h H locs ls hP hD hS hl
    unfold m_test_b371 at h
    refine lv_aload_n hx hb dX12_test_371 rfl (lv_at hl 0 rfl) ?_
    refine lv_iload_n hx hb dX12_test_372 rfl (lv_at hl 2 rfl) ?_
    refine fp_74 hx hb hts hown hK hP hD hS dX12_test_373 (fun H locs hP hD hS => ?_)
    refine lv_iload_n hx hb dX12_test_376 rfl (lv_at hl 1 rfl) ?_
    obtain ⟨e1, e2⟩ := Prod.mk.inj (Option.some.inj h)
    rw [e1] at hP hD
    exact W.iret (v := u1) hx hb hr (fun t_ ht hW => ⟨⟨u1, (), rfl, e2, by rw [ht]; exact hP, hD⟩, hS.F ht⟩) hS.2.2 dX12_test_377
  have B_83 : ∀ (cs1 : RS) (u1 : Int32) (u2 : Int32) (u3 : Int32) (u4 : Int32), m_test_b83 F T cs1 u1 u2 u3 u4 = some (cs9, r9) → ∀ (H : Heap) (locs : List Loc) (ls : Array Slot), va_P (dC, dI) vwCl (mW cB cI cJ cZ h0 a cs1) H → va_D A (mW cB cI cJ cZ h0 a cs1) → va_S A s.heap H locs → lv_has ls 11 [(0, .ref h0), (1, .int u1), (2, .int u2), (3, .int u3), (4, .int u4)] → W p l e (headSpec (wsOf yX12_test cX12_test 11 (some .int)) ({ frames := n + 1 + 10, cells := 0, slots := 0, locals := 60 * (n + 1 + 10) } : Room)).room s m ([.ref h0] : List Value).toArray below meth c H locs 0 0 (MQ below (va_Qi (fun (x : Int32) (_ : Unit) => x = r9) (fun _ t_ => va_P (dC, dI) vwCl (mW cB cI cJ cZ h0 a cs9) t_.heap ∧ va_D A (mW cB cI cJ cZ h0 a cs9)) A) ([.ref h0] : List Value).toArray s 0 0 A) (F0 m 83 ls []) := by
    intro cs1 u1 u2 u3 u4 h H locs ls hP hD hS hl
    unfold m_test_b83 at h
    refine lv_aload_n hx hb dX12_test_83 rfl (lv_at hl 0 rfl) ?_
    refine lv_dup hx hb dX12_test_84 rfl ?_
    refine fg_18 hx hb hts hown hK hP dX12_test_85 ?_
    refine lv_iconst (v := 1) hx hb dX12_test_88 (by decide) ?_
    refine lv_iadd hx hb dX12_test_89 ?_
    refine fp_18 hx hb hts hown hK hP hD hS dX12_test_90 (fun H locs hP hD hS => ?_)
    refine lv_aload_n hx hb dX12_test_93 rfl (lv_at hl 0 rfl) ?_
    obtain ⟨z_1, hv_1, h⟩ := ob h
    refine calI (As := []) hx hb hml hts hown hK hP hD hS hA hZ (hT_sum (setF cs1 18 ((cs1.1 18) + 1))  z_1.1 z_1.2 hv_1) (cw_sum hts (fr := n + 10) (by show n + 10 + 1 ≤ n + 1 + 10; omega) (by show 8 + (6 + 11) + 60 * (n + 10) ≤ 60 * (n + 1 + 10); omega)) rfl hl.1 (Nat.le_of_ble_eq_true rfl) ⟨Nat.zero_le _, Nat.zero_le _⟩ dX12_test_94 (fun H locs hP hD hS => ?_)
    refine lv_istore (lv' := [(5, .int z_1.2), (0, .ref h0), (1, .int u1), (2, .int u2), (3, .int u3), (4, .int u4)]) hx hb dX12_test_97 hl (by decide) rfl (fun ls hl => ?_)
    refine lv_aload_n hx hb dX12_test_99 rfl (lv_at hl 1 rfl) ?_
    refine lv_bipush (v := 9) hx hb dX12_test_100 (by decide) ?_
    refine lv_iload_n hx hb dX12_test_102 rfl (lv_at hl 2 rfl) ?_
    refine lv_iload hx hb dX12_test_103 (lv_at hl 0 rfl) ?_
    refine lv_iconst (v := (-1)) hx hb dX12_test_105 (by decide) ?_
    refine lv_iload_n hx hb dX12_test_106 rfl (lv_at hl 3 rfl) ?_
    refine lv_iload_n hx hb dX12_test_107 rfl (lv_at hl 4 rfl) ?_
    obtain ⟨z_2, hv_2, h⟩ := ob h
    refine calI (As := [.int 9, .int u1, .int z_1.2, .int (-1), .int u2, .int u3]) hx hb hml hts hown hK hP hD hS hA hZ (s_make l dC dI cB cI cJ cZ h0 a K V fz F z_1.1 9 u1 z_1.2 (-1) u2 u3 z_2.1 z_2.2 hv_2) (cw_make hts (fr := 1) (by show 1 + 1 ≤ n + 1 + 10; omega) (by show 8 + (8 + 11) + 60 * (1) ≤ 60 * (n + 1 + 10); omega)) rfl hl.1 (Nat.le_of_ble_eq_true rfl) ⟨Nat.zero_le _, Nat.zero_le _⟩ dX12_test_108 (fun H locs hP hD hS => ?_)
    refine lv_istore_n (lv' := [(1, .int z_2.2), (5, .int z_1.2), (0, .ref h0), (2, .int u2), (3, .int u3), (4, .int u4)]) hx hb dX12_test_111 rfl hl (by decide) rfl (fun ls hl => ?_)
    refine lv_aload_n hx hb dX12_test_112 rfl (lv_at hl 2 rfl) ?_
    refine fg_27 hx hb hts hown hK hP dX12_test_113 ?_
    refine lv_iload_n hx hb dX12_test_116 rfl (lv_at hl 0 rfl) ?_
    refine lv_iload hx hb dX12_test_117 (lv_at hl 5 rfl) ?_
    obtain ⟨cs_3, hv_3, h⟩ := ob h
    refine ap_27 hx hb hK hP hD hS hv_3 dX12_test_119 (fun H locs hP hD hS => ?_)
    refine lv_goto (tgt := 371) hx hb dX12_test_120 (by decide) ?_
    exact B_371 cs_3 z_2.2 u2 h _ _ _ hP hD hS (lv_sub hl [2, 0, 3] rfl)
  have B_176 : ∀ (cs1 : RS) (u1 : Int32) (u2 : Int32) (y0 : Int32) (y1 : Int32), m_test_b176 F T cs1 u1 u2 y0 y1 = some (cs9, r9) → ∀ (H : Heap) (locs : List Loc) (ls : Array Slot), va_P (dC, dI) vwCl (mW cB cI cJ cZ h0 a cs1) H → va_D A (mW cB cI cJ cZ h0 a cs1) → va_S A s.heap H locs → lv_has ls 11 [(0, .ref h0), (1, .int u1), (2, .int u2)] → W p l e (headSpec (wsOf yX12_test cX12_test 11 (some .int)) ({ frames := n + 1 + 10, cells := 0, slots := 0, locals := 60 * (n + 1 + 10) } : Room)).room s m ([.ref h0] : List Value).toArray below meth c H locs 0 0 (MQ below (va_Qi (fun (x : Int32) (_ : Unit) => x = r9) (fun _ t_ => va_P (dC, dI) vwCl (mW cB cI cJ cZ h0 a cs9) t_.heap ∧ va_D A (mW cB cI cJ cZ h0 a cs9)) A) ([.ref h0] : List Value).toArray s 0 0 A) (F0 m 176 ls [.int y0, .int y1, .ref (a 27)]) := by
    intro cs1 u1 u2 y0 y1 h H locs ls hP hD hS hl
    unfold m_test_b176 at h
    obtain ⟨cs_4, hv_4, h⟩ := ob h
    refine ap_27 hx hb hK hP hD hS hv_4 dX12_test_176 (fun H locs hP hD hS => ?_)
    refine lv_goto (tgt := 371) hx hb dX12_test_177 (by decide) ?_
    exact B_371 cs_4 u1 u2 h _ _ _ hP hD hS (lv_sub hl [0, 1, 2] rfl)
  have B_370 : ∀ (cs1 : RS) (u1 : Int32) (u2 : Int32) (y0 : Int32) (y1 : Int32), m_test_b370 F T cs1 u1 u2 y0 y1 = some (cs9, r9) → ∀ (H : Heap) (locs : List Loc) (ls : Array Slot), va_P (dC, dI) vwCl (mW cB cI cJ cZ h0 a cs1) H → va_D A (mW cB cI cJ cZ h0 a cs1) → va_S A s.heap H locs → lv_has ls 11 [(0, .ref h0), (1, .int u1), (2, .int u2)] → W p l e (headSpec (wsOf yX12_test cX12_test 11 (some .int)) ({ frames := n + 1 + 10, cells := 0, slots := 0, locals := 60 * (n + 1 + 10) } : Room)).room s m ([.ref h0] : List Value).toArray below meth c H locs 0 0 (MQ below (va_Qi (fun (x : Int32) (_ : Unit) => x = r9) (fun _ t_ => va_P (dC, dI) vwCl (mW cB cI cJ cZ h0 a cs9) t_.heap ∧ va_D A (mW cB cI cJ cZ h0 a cs9)) A) ([.ref h0] : List Value).toArray s 0 0 A) (F0 m 370 ls [.int y0, .int y1, .ref (a 27)]) := by
    intro cs1 u1 u2 y0 y1 h H locs ls hP hD hS hl
    unfold m_test_b370 at h
    obtain ⟨cs_5, hv_5, h⟩ := ob h
    refine ap_27 hx hb hK hP hD hS hv_5 dX12_test_370 (fun H locs hP hD hS => ?_)
    exact B_371 cs_5 u1 u2 h _ _ _ hP hD hS (lv_sub hl [0, 1, 2] rfl)
  have B_336 : ∀ (cs1 : RS) (u1 : Int32) (u2 : Int32) (u3 : Int32) (u5 : Int32) (u6 : Int32), m_test_b336 F T cs1 u1 u2 u3 u5 u6 = some (cs9, r9) → ∀ (H : Heap) (locs : List Loc) (ls : Array Slot), va_P (dC, dI) vwCl (mW cB cI cJ cZ h0 a cs1) H → va_D A (mW cB cI cJ cZ h0 a cs1) → va_S A s.heap H locs → lv_has ls 11 [(0, .ref h0), (1, .int u1), (2, .int u2), (3, .int u3), (5, .int u5), (6, .int u6)] → W p l e (headSpec (wsOf yX12_test cX12_test 11 (some .int)) ({ frames := n + 1 + 10, cells := 0, slots := 0, locals := 60 * (n + 1 + 10) } : Room)).room s m ([.ref h0] : List Value).toArray below meth c H locs 0 0 (MQ below (va_Qi (fun (x : Int32) (_ : Unit) => x = r9) (fun _ t_ => va_P (dC, dI) vwCl (mW cB cI cJ cZ h0 a cs9) t_.heap ∧ va_D A (mW cB cI cJ cZ h0 a cs9)) A) ([.ref h0] : List Value).toArray s 0 0 A) (F0 m 336 ls []) := by
    intro cs1 u1 u2 u3 u5 u6 h H locs ls hP hD hS hl
    unfold m_test_b336 at h
    refine lv_aload_n hx hb dX12_test_336 rfl (lv_at hl 0 rfl) ?_
    refine lv_bipush (v := 41) hx hb dX12_test_337 (by decide) ?_
    obtain ⟨cs_6, hv_6, h⟩ := ob h
    refine calV (As := [.int 41]) hx hb hml hts hown hK hP hD hS hA hZ (s_needSign l dC dI cB cI cJ cZ h0 a K V fz F cs1 41 cs_6 hv_6) (cw_needSign hts (fr := 2) (by show 2 + 1 ≤ n + 1 + 10; omega) (by show 8 + (2 + 11) + 60 * (2) ≤ 60 * (n + 1 + 10); omega)) rfl hl.1 (Nat.le_of_ble_eq_true rfl) ⟨Nat.zero_le _, Nat.zero_le _⟩ dX12_test_339 (fun H locs hP hD hS => ?_)
    refine lv_aload_n hx hb dX12_test_342 rfl (lv_at hl 0 rfl) ?_
    refine lv_bipush (v := 11) hx hb dX12_test_343 (by decide) ?_
    refine lv_iload_n hx hb dX12_test_345 rfl (lv_at hl 1 rfl) ?_
    refine lv_iload hx hb dX12_test_346 (lv_at hl 5 rfl) ?_
    refine lv_iconst (v := (-1)) hx hb dX12_test_348 (by decide) ?_
    refine lv_iload_n hx hb dX12_test_349 rfl (lv_at hl 2 rfl) ?_
    refine lv_iload_n hx hb dX12_test_350 rfl (lv_at hl 3 rfl) ?_
    obtain ⟨z_7, hv_7, h⟩ := ob h
    refine calI (As := [.int 11, .int u1, .int u6, .int (-1), .int u2, .int u3]) hx hb hml hts hown hK hP hD hS hA hZ (s_make l dC dI cB cI cJ cZ h0 a K V fz F cs_6 11 u1 u6 (-1) u2 u3 z_7.1 z_7.2 hv_7) (cw_make hts (fr := 1) (by show 1 + 1 ≤ n + 1 + 10; omega) (by show 8 + (8 + 11) + 60 * (1) ≤ 60 * (n + 1 + 10); omega)) rfl hl.1 (Nat.le_of_ble_eq_true rfl) ⟨Nat.zero_le _, Nat.zero_le _⟩ dX12_test_351 (fun H locs hP hD hS => ?_)
    refine lv_istore_n (lv' := [(1, .int z_7.2), (0, .ref h0), (2, .int u2), (3, .int u3), (5, .int u5), (6, .int u6)]) hx hb dX12_test_354 rfl hl (by decide) rfl (fun ls hl => ?_)
    refine lv_aload_n hx hb dX12_test_355 rfl (lv_at hl 1 rfl) ?_
    refine fg_27 hx hb hts hown hK hP dX12_test_356 ?_
    refine lv_iload_n hx hb dX12_test_359 rfl (lv_at hl 0 rfl) ?_
    refine lv_iload hx hb dX12_test_360 (lv_at hl 4 rfl) ?_
    refine lv_if_eq (tgt := 369) hx hb dX12_test_362 (by decide) (fun c_8 => ?_) (fun c_8 => ?_)
    · skip
      replace h := (if_pos c_8).symm.trans h
      refine lv_iconst (v := 0) hx hb dX12_test_369 (by decide) ?_
      exact B_370 z_7.1 z_7.2 u2 0 z_7.2 h _ _ _ hP hD hS (lv_sub hl [1, 0, 2] rfl)
    · skip
      replace h := (if_neg c_8).symm.trans h
      refine lv_iconst (v := 1) hx hb dX12_test_365 (by decide) ?_
      refine lv_goto (tgt := 370) hx hb dX12_test_366 (by decide) ?_
      exact B_370 z_7.1 z_7.2 u2 1 z_7.2 h _ _ _ hP hD hS (lv_sub hl [1, 0, 2] rfl)
  have L_234 : ∀ (lf_234 : Nat), ∀ (cs1 : RS) (u1 : Int32) (u2 : Int32) (u3 : Int32) (u5 : Int32) (u6 : Int32) (u7 : Int32) (u8 : Int32) (u9 : Int32), m_test_L234 F T lf_234 cs1 u1 u2 u3 u5 u6 u7 u8 u9 = some (cs9, r9) → ∀ (H : Heap) (locs : List Loc) (ls : Array Slot), va_P (dC, dI) vwCl (mW cB cI cJ cZ h0 a cs1) H → va_D A (mW cB cI cJ cZ h0 a cs1) → va_S A s.heap H locs → lv_has ls 11 [(0, .ref h0), (1, .int u1), (2, .int u2), (3, .int u3), (5, .int u5), (6, .int u6), (7, .int u7), (8, .int u8), (9, .int u9)] → W p l e (headSpec (wsOf yX12_test cX12_test 11 (some .int)) ({ frames := n + 1 + 10, cells := 0, slots := 0, locals := 60 * (n + 1 + 10) } : Room)).room s m ([.ref h0] : List Value).toArray below meth c H locs 0 0 (MQ below (va_Qi (fun (x : Int32) (_ : Unit) => x = r9) (fun _ t_ => va_P (dC, dI) vwCl (mW cB cI cJ cZ h0 a cs9) t_.heap ∧ va_D A (mW cB cI cJ cZ h0 a cs9)) A) ([.ref h0] : List Value).toArray s 0 0 A) (F0 m 234 ls []) := by
    intro lf_234
    induction lf_234 with
    | zero => intro cs1 u1 u2 u3 u5 u6 u7 u8 u9 h; cases (show (none : Option (RS × Int32)) = _ from h)
    | succ lf_234 ih_234 =>
      have B_321 : ∀ (cs1 : RS) (u1 : Int32) (u2 : Int32) (u3 : Int32) (u5 : Int32) (u6 : Int32) (u8 : Int32) (u10 : Int32), m_test_b321 F T (m_test_L234 F T lf_234) cs1 u1 u2 u3 u5 u6 u8 u10 = some (cs9, r9) → ∀ (H : Heap) (locs : List Loc) (ls : Array Slot), va_P (dC, dI) vwCl (mW cB cI cJ cZ h0 a cs1) H → va_D A (mW cB cI cJ cZ h0 a cs1) → va_S A s.heap H locs → lv_has ls 11 [(0, .ref h0), (1, .int u1), (2, .int u2), (3, .int u3), (5, .int u5), (6, .int u6), (8, .int u8), (10, .int u10)] → W p l e (headSpec (wsOf yX12_test cX12_test 11 (some .int)) ({ frames := n + 1 + 10, cells := 0, slots := 0, locals := 60 * (n + 1 + 10) } : Room)).room s m ([.ref h0] : List Value).toArray below meth c H locs 0 0 (MQ below (va_Qi (fun (x : Int32) (_ : Unit) => x = r9) (fun _ t_ => va_P (dC, dI) vwCl (mW cB cI cJ cZ h0 a cs9) t_.heap ∧ va_D A (mW cB cI cJ cZ h0 a cs9)) A) ([.ref h0] : List Value).toArray s 0 0 A) (F0 m 321 ls []) := by
        intro cs1 u1 u2 u3 u5 u6 u8 u10 h H locs ls hP hD hS hl
        unfold m_test_b321 at h
        refine lv_iload hx hb dX12_test_321 (lv_at hl 7 rfl) ?_
        refine lv_istore (lv' := [(7, .int u10), (0, .ref h0), (1, .int u1), (2, .int u2), (3, .int u3), (5, .int u5), (6, .int u6), (8, .int u8), (10, .int u10)]) hx hb dX12_test_323 hl (by decide) rfl (fun ls hl => ?_)
        refine lv_aload_n hx hb dX12_test_325 rfl (lv_at hl 1 rfl) ?_
        refine lv_bipush (v := 44) hx hb dX12_test_326 (by decide) ?_
        obtain ⟨z_9, hv_9, h⟩ := ob h
        refine calI (As := [.int 44]) hx hb hml hts hown hK hP hD hS hA hZ (s_takeSign l dC dI cB cI cJ cZ h0 a K V fz F cs1 44 z_9.1 z_9.2 hv_9) (cw_takeSign hts (fr := 1) (by show 1 + 1 ≤ n + 1 + 10; omega) (by show 8 + (3 + 11) + 60 * (1) ≤ 60 * (n + 1 + 10); omega)) rfl hl.1 (Nat.le_of_ble_eq_true rfl) ⟨Nat.zero_le _, Nat.zero_le _⟩ dX12_test_328 (fun H locs hP hD hS => ?_)
        refine lv_istore (lv' := [(9, .int z_9.2), (7, .int u10), (0, .ref h0), (1, .int u1), (2, .int u2), (3, .int u3), (5, .int u5), (6, .int u6), (8, .int u8), (10, .int u10)]) hx hb dX12_test_331 hl (by decide) rfl (fun ls hl => ?_)
        refine lv_goto (tgt := 234) hx hb dX12_test_333 (by decide) ?_
        exact ih_234 z_9.1 u1 u2 u3 u5 u6 u10 u8 z_9.2 h _ _ _ hP hD hS (lv_sub hl [2, 3, 4, 5, 6, 7, 1, 8, 0] rfl)
      have B_305 : ∀ (cs1 : RS) (u1 : Int32) (u2 : Int32) (u3 : Int32) (u5 : Int32) (u6 : Int32) (u7 : Int32) (u8 : Int32) (u10 : Int32), m_test_b305 F T (m_test_L234 F T lf_234) cs1 u1 u2 u3 u5 u6 u7 u8 u10 = some (cs9, r9) → ∀ (H : Heap) (locs : List Loc) (ls : Array Slot), va_P (dC, dI) vwCl (mW cB cI cJ cZ h0 a cs1) H → va_D A (mW cB cI cJ cZ h0 a cs1) → va_S A s.heap H locs → lv_has ls 11 [(0, .ref h0), (1, .int u1), (2, .int u2), (3, .int u3), (5, .int u5), (6, .int u6), (7, .int u7), (8, .int u8), (10, .int u10)] → W p l e (headSpec (wsOf yX12_test cX12_test 11 (some .int)) ({ frames := n + 1 + 10, cells := 0, slots := 0, locals := 60 * (n + 1 + 10) } : Room)).room s m ([.ref h0] : List Value).toArray below meth c H locs 0 0 (MQ below (va_Qi (fun (x : Int32) (_ : Unit) => x = r9) (fun _ t_ => va_P (dC, dI) vwCl (mW cB cI cJ cZ h0 a cs9) t_.heap ∧ va_D A (mW cB cI cJ cZ h0 a cs9)) A) ([.ref h0] : List Value).toArray s 0 0 A) (F0 m 305 ls []) := by
        intro cs1 u1 u2 u3 u5 u6 u7 u8 u10 h H locs ls hP hD hS hl
        unfold m_test_b305 at h
        refine lv_aload_n hx hb dX12_test_305 rfl (lv_at hl 0 rfl) ?_
        refine fg_21 hx hb hts hown hK hP dX12_test_306 ?_
        refine lv_if_eq (tgt := 321) hx hb dX12_test_309 (by decide) (fun c_10 => ?_) (fun c_10 => ?_)
        · skip
          replace h := (if_pos c_10).symm.trans h
          exact B_321 cs1 u1 u2 u3 u5 u6 u8 u10 h _ _ _ hP hD hS (lv_sub hl [0, 1, 2, 3, 4, 5, 7, 8] rfl)
        · skip
          replace h := (if_neg c_10).symm.trans h
          refine lv_aload_n hx hb dX12_test_312 rfl (lv_at hl 0 rfl) ?_
          refine fg_32 hx hb hts hown hK hP dX12_test_313 ?_
          refine lv_iload hx hb dX12_test_316 (lv_at hl 6 rfl) ?_
          refine lv_iload hx hb dX12_test_318 (lv_at hl 8 rfl) ?_
          obtain ⟨cs_11, hv_11, h⟩ := ob h
          refine ap_32 hx hb hK hP hD hS hv_11 dX12_test_320 (fun H locs hP hD hS => ?_)
          exact B_321 cs_11 u1 u2 u3 u5 u6 u8 u10 h _ _ _ hP hD hS (lv_sub hl [0, 1, 2, 3, 4, 5, 7, 8] rfl)
      have B_279 : ∀ (cs1 : RS) (u1 : Int32) (u2 : Int32) (u3 : Int32) (u5 : Int32) (u6 : Int32) (u7 : Int32) (u8 : Int32), m_test_b279 F T (m_test_L234 F T lf_234) cs1 u1 u2 u3 u5 u6 u7 u8 = some (cs9, r9) → ∀ (H : Heap) (locs : List Loc) (ls : Array Slot), va_P (dC, dI) vwCl (mW cB cI cJ cZ h0 a cs1) H → va_D A (mW cB cI cJ cZ h0 a cs1) → va_S A s.heap H locs → lv_has ls 11 [(0, .ref h0), (1, .int u1), (2, .int u2), (3, .int u3), (5, .int u5), (6, .int u6), (7, .int u7), (8, .int u8)] → W p l e (headSpec (wsOf yX12_test cX12_test 11 (some .int)) ({ frames := n + 1 + 10, cells := 0, slots := 0, locals := 60 * (n + 1 + 10) } : Room)).room s m ([.ref h0] : List Value).toArray below meth c H locs 0 0 (MQ below (va_Qi (fun (x : Int32) (_ : Unit) => x = r9) (fun _ t_ => va_P (dC, dI) vwCl (mW cB cI cJ cZ h0 a cs9) t_.heap ∧ va_D A (mW cB cI cJ cZ h0 a cs9)) A) ([.ref h0] : List Value).toArray s 0 0 A) (F0 m 279 ls []) := by
        intro cs1 u1 u2 u3 u5 u6 u7 u8 h H locs ls hP hD hS hl
        unfold m_test_b279 at h
        refine lv_aload_n hx hb dX12_test_279 rfl (lv_at hl 0 rfl) ?_
        obtain ⟨z_12, hv_12, h⟩ := ob h
        refine calI (As := []) hx hb hml hts hown hK hP hD hS hA hZ (hT_sum cs1  z_12.1 z_12.2 hv_12) (cw_sum hts (fr := n + 10) (by show n + 10 + 1 ≤ n + 1 + 10; omega) (by show 8 + (6 + 11) + 60 * (n + 10) ≤ 60 * (n + 1 + 10); omega)) rfl hl.1 (Nat.le_of_ble_eq_true rfl) ⟨Nat.zero_le _, Nat.zero_le _⟩ dX12_test_280 (fun H locs hP hD hS => ?_)
        refine lv_istore (lv' := [(10, .int z_12.2), (0, .ref h0), (1, .int u1), (2, .int u2), (3, .int u3), (5, .int u5), (6, .int u6), (7, .int u7), (8, .int u8)]) hx hb dX12_test_283 hl (by decide) rfl (fun ls hl => ?_)
        refine lv_aload_n hx hb dX12_test_285 rfl (lv_at hl 1 rfl) ?_
        refine fg_21 hx hb hts hown hK hP dX12_test_286 ?_
        refine lv_if_eq (tgt := 305) hx hb dX12_test_289 (by decide) (fun c_13 => ?_) (fun c_13 => ?_)
        · skip
          replace h := (if_pos c_13).symm.trans h
          exact B_305 z_12.1 u1 u2 u3 u5 u6 u7 u8 z_12.2 h _ _ _ hP hD hS (lv_sub hl [1, 2, 3, 4, 5, 6, 7, 8, 0] rfl)
        · skip
          replace h := (if_neg c_13).symm.trans h
          refine lv_iload hx hb dX12_test_292 (lv_at hl 7 rfl) ?_
          refine lv_iconst (v := (-1)) hx hb dX12_test_294 (by decide) ?_
          refine lv_icmp_ne (tgt := 305) hx hb dX12_test_295 (by decide) (fun c_14 => ?_) (fun c_14 => ?_)
          · skip
            replace h := (if_neg c_14).symm.trans h
            exact B_305 z_12.1 u1 u2 u3 u5 u6 u7 u8 z_12.2 h _ _ _ hP hD hS (lv_sub hl [1, 2, 3, 4, 5, 6, 7, 8, 0] rfl)
          · skip
            replace h := (if_pos c_14).symm.trans h
            refine lv_iload hx hb dX12_test_298 (lv_at hl 0 rfl) ?_
            refine lv_istore (lv' := [(6, .int z_12.2), (10, .int z_12.2), (0, .ref h0), (1, .int u1), (2, .int u2), (3, .int u3), (5, .int u5), (7, .int u7), (8, .int u8)]) hx hb dX12_test_300 hl (by decide) rfl (fun ls hl => ?_)
            refine lv_goto (tgt := 321) hx hb dX12_test_302 (by decide) ?_
            exact B_321 z_12.1 u1 u2 u3 u5 z_12.2 u8 z_12.2 h _ _ _ hP hD hS (lv_sub hl [2, 3, 4, 5, 6, 0, 8, 1] rfl)
      intro cs1 u1 u2 u3 u5 u6 u7 u8 u9 h H locs ls hP hD hS hl
      rw [m_test_L234] at h
      refine lv_iload hx hb dX12_test_234 (lv_at hl 8 rfl) ?_
      refine lv_if_eq (tgt := 336) hx hb dX12_test_236 (by decide) (fun c_15 => ?_) (fun c_15 => ?_)
      · skip
        replace h := (if_pos c_15).symm.trans h
        exact B_336 cs1 u1 u2 u3 u5 u6 h _ _ _ hP hD hS (lv_sub hl [0, 1, 2, 3, 4, 5] rfl)
      · skip
        replace h := (if_neg c_15).symm.trans h
        refine lv_aload_n hx hb dX12_test_239 rfl (lv_at hl 0 rfl) ?_
        refine fg_21 hx hb hts hown hK hP dX12_test_240 ?_
        refine lv_if_eq (tgt := 336) hx hb dX12_test_243 (by decide) (fun c_16 => ?_) (fun c_16 => ?_)
        · skip
          replace h := (if_pos c_16).symm.trans h
          exact B_336 cs1 u1 u2 u3 u5 u6 h _ _ _ hP hD hS (lv_sub hl [0, 1, 2, 3, 4, 5] rfl)
        · skip
          replace h := (if_neg c_16).symm.trans h
          refine lv_iinc (v := u8 + 1) (lv' := [(8, .int (u8 + 1)), (0, .ref h0), (1, .int u1), (2, .int u2), (3, .int u3), (5, .int u5), (6, .int u6), (7, .int u7), (9, .int u9)]) hx hb dX12_test_246 hl (k := 7) rfl rfl (by decide) rfl (fun ls hl => ?_)
          refine lv_iload hx hb dX12_test_249 (lv_at hl 0 rfl) ?_
          refine lv_bipush (v := 9) hx hb dX12_test_251 (by decide) ?_
          refine lv_icmp_ne (tgt := 279) hx hb dX12_test_253 (by decide) (fun c_17 => ?_) (fun c_17 => ?_)
          · skip
            replace h := (if_neg c_17).symm.trans h
            exact B_279 cs1 u1 u2 u3 u5 u6 u7 (u8 + 1) h _ _ _ hP hD hS (lv_sub hl [1, 2, 3, 4, 5, 6, 7, 0] rfl)
          · skip
            replace h := (if_pos c_17).symm.trans h
            refine lv_aload_n hx hb dX12_test_256 rfl (lv_at hl 1 rfl) ?_
            refine lv_iconst (v := 1) hx hb dX12_test_257 (by decide) ?_
            obtain ⟨v_18, hv_18, h⟩ := ob h
            refine calI (As := [.int 1]) hx hb hml hts hown hK hP hD hS hA hZ (s_begins l dC dI cB cI cJ cZ h0 a K V fz F cs1 1 v_18 hv_18) (cw_begins hts (fr := 7) (by show 7 + 1 ≤ n + 1 + 10; omega) (by show 8 + (5 + 11) + 60 * (7) ≤ 60 * (n + 1 + 10); omega)) rfl hl.1 (Nat.le_of_ble_eq_true rfl) ⟨Nat.zero_le _, Nat.zero_le _⟩ dX12_test_258 (fun H locs hP hD hS => ?_)
            refine lv_if_eq (tgt := 279) hx hb dX12_test_261 (by decide) (fun c_19 => ?_) (fun c_19 => ?_)
            · skip
              replace h := (if_pos c_19).symm.trans h
              exact B_279 cs1 u1 u2 u3 u5 u6 u7 (u8 + 1) h _ _ _ hP hD hS (lv_sub hl [1, 2, 3, 4, 5, 6, 7, 0] rfl)
            · skip
              replace h := (if_neg c_19).symm.trans h
              refine lv_aload_n hx hb dX12_test_264 rfl (lv_at hl 1 rfl) ?_
              refine lv_bipush (v := 7) hx hb dX12_test_265 (by decide) ?_
              refine lv_aload_n hx hb dX12_test_267 rfl (lv_at hl 1 rfl) ?_
              refine fg_15 hx hb hts hown hK hP dX12_test_268 ?_
              refine lv_aload_n hx hb dX12_test_271 rfl (lv_at hl 1 rfl) ?_
              refine fg_18 hx hb hts hown hK hP dX12_test_272 ?_
              obtain ⟨v_20, hv_20, h⟩ := ob h
              refine ag_15 hx hb hK hP hv_20 dX12_test_275 ?_
              obtain ⟨cs_21, hv_21, h⟩ := ob h
              refine calV (As := [.int 7, .int v_20]) hx hb hml hts hown hK hP hD hS hA hZ (s_tell l dC dI cB cI cJ cZ h0 a K V fz F cs1 7 v_20 cs_21 hv_21) (cw_tell hts (fr := 0) (by show 0 + 1 ≤ n + 1 + 10; omega) (by show 8 + (3 + 11) + 60 * (0) ≤ 60 * (n + 1 + 10); omega)) rfl hl.1 (Nat.le_of_ble_eq_true rfl) ⟨Nat.zero_le _, Nat.zero_le _⟩ dX12_test_276 (fun H locs hP hD hS => ?_)
              exact B_279 cs_21 u1 u2 u3 u5 u6 u7 (u8 + 1) h _ _ _ hP hD hS (lv_sub hl [1, 2, 3, 4, 5, 6, 7, 0] rfl)
  have B_200 : ∀ (cs1 : RS) (u1 : Int32) (u2 : Int32) (u3 : Int32), m_test_b200 F T cs1 u1 u2 u3 = some (cs9, r9) → ∀ (H : Heap) (locs : List Loc) (ls : Array Slot), va_P (dC, dI) vwCl (mW cB cI cJ cZ h0 a cs1) H → va_D A (mW cB cI cJ cZ h0 a cs1) → va_S A s.heap H locs → lv_has ls 11 [(0, .ref h0), (1, .int u1), (2, .int u2), (3, .int u3)] → W p l e (headSpec (wsOf yX12_test cX12_test 11 (some .int)) ({ frames := n + 1 + 10, cells := 0, slots := 0, locals := 60 * (n + 1 + 10) } : Room)).room s m ([.ref h0] : List Value).toArray below meth c H locs 0 0 (MQ below (va_Qi (fun (x : Int32) (_ : Unit) => x = r9) (fun _ t_ => va_P (dC, dI) vwCl (mW cB cI cJ cZ h0 a cs9) t_.heap ∧ va_D A (mW cB cI cJ cZ h0 a cs9)) A) ([.ref h0] : List Value).toArray s 0 0 A) (F0 m 200 ls []) := by
    intro cs1 u1 u2 u3 h H locs ls hP hD hS hl
    unfold m_test_b200 at h
    refine lv_aload_n hx hb dX12_test_200 rfl (lv_at hl 0 rfl) ?_
    refine va_ldcSW (own := RX12) (index := 376) (tx := soT 16) (q := K 16) hx hb hown (hZ.ref 16 (by decide)) dX12_test_201 ?_
    obtain ⟨z_22, hv_22, h⟩ := ob h
    refine calI (As := [.ref (K 16)]) hx hb hml hts hown hK hP hD hS hA hZ (s_takeWord l dC dI cB cI cJ cZ h0 a K V fz F cs1 16 (by decide) z_22.1 z_22.2 hv_22) (cw_takeWord hts (fr := 8) (by show 8 + 1 ≤ n + 1 + 10; omega) (by show 8 + (3 + 11) + 60 * (8) ≤ 60 * (n + 1 + 10); omega)) rfl hl.1 (Nat.le_of_ble_eq_true rfl) ⟨Nat.zero_le _, Nat.zero_le _⟩ dX12_test_204 (fun H locs hP hD hS => ?_)
    refine lv_istore (lv' := [(5, .int z_22.2), (0, .ref h0), (1, .int u1), (2, .int u2), (3, .int u3)]) hx hb dX12_test_207 hl (by decide) rfl (fun ls hl => ?_)
    refine lv_aload_n hx hb dX12_test_209 rfl (lv_at hl 1 rfl) ?_
    refine va_ldcSW (own := RX12) (index := 412) (tx := soT 22) (q := K 22) hx hb hown (hZ.ref 22 (by decide)) dX12_test_210 ?_
    obtain ⟨cs_23, hv_23, h⟩ := ob h
    refine calV (As := [.ref (K 22)]) hx hb hml hts hown hK hP hD hS hA hZ (s_needWord l dC dI cB cI cJ cZ h0 a K V fz F z_22.1 22 (by decide) cs_23 hv_23) (cw_needWord hts (fr := 9) (by show 9 + 1 ≤ n + 1 + 10; omega) (by show 8 + (2 + 11) + 60 * (9) ≤ 60 * (n + 1 + 10); omega)) rfl hl.1 (Nat.le_of_ble_eq_true rfl) ⟨Nat.zero_le _, Nat.zero_le _⟩ dX12_test_213 (fun H locs hP hD hS => ?_)
    refine lv_aload_n hx hb dX12_test_216 rfl (lv_at hl 1 rfl) ?_
    refine lv_bipush (v := 40) hx hb dX12_test_217 (by decide) ?_
    obtain ⟨cs_24, hv_24, h⟩ := ob h
    refine calV (As := [.int 40]) hx hb hml hts hown hK hP hD hS hA hZ (s_needSign l dC dI cB cI cJ cZ h0 a K V fz F cs_23 40 cs_24 hv_24) (cw_needSign hts (fr := 2) (by show 2 + 1 ≤ n + 1 + 10; omega) (by show 8 + (2 + 11) + 60 * (2) ≤ 60 * (n + 1 + 10); omega)) rfl hl.1 (Nat.le_of_ble_eq_true rfl) ⟨Nat.zero_le _, Nat.zero_le _⟩ dX12_test_219 (fun H locs hP hD hS => ?_)
    refine lv_iconst (v := (-1)) hx hb dX12_test_222 (by decide) ?_
    refine lv_istore (lv' := [(6, .int (-1)), (5, .int z_22.2), (0, .ref h0), (1, .int u1), (2, .int u2), (3, .int u3)]) hx hb dX12_test_223 hl (by decide) rfl (fun ls hl => ?_)
    refine lv_iconst (v := (-1)) hx hb dX12_test_225 (by decide) ?_
    refine lv_istore (lv' := [(7, .int (-1)), (6, .int (-1)), (5, .int z_22.2), (0, .ref h0), (1, .int u1), (2, .int u2), (3, .int u3)]) hx hb dX12_test_226 hl (by decide) rfl (fun ls hl => ?_)
    refine lv_iconst (v := 0) hx hb dX12_test_228 (by decide) ?_
    refine lv_istore (lv' := [(8, .int 0), (7, .int (-1)), (6, .int (-1)), (5, .int z_22.2), (0, .ref h0), (1, .int u1), (2, .int u2), (3, .int u3)]) hx hb dX12_test_229 hl (by decide) rfl (fun ls hl => ?_)
    refine lv_iconst (v := 1) hx hb dX12_test_231 (by decide) ?_
    refine lv_istore (lv' := [(9, .int 1), (8, .int 0), (7, .int (-1)), (6, .int (-1)), (5, .int z_22.2), (0, .ref h0), (1, .int u1), (2, .int u2), (3, .int u3)]) hx hb dX12_test_232 hl (by decide) rfl (fun ls hl => ?_)
    exact L_234 F cs_24 u1 u2 u3 z_22.2 (-1) (-1) 0 1 h _ _ _ hP hD hS (lv_sub hl [5, 6, 7, 8, 4, 3, 2, 1, 0] rfl)
  have B_123 : ∀ (cs1 : RS) (u1 : Int32) (u2 : Int32) (u3 : Int32), m_test_b123 F T cs1 u1 u2 u3 = some (cs9, r9) → ∀ (H : Heap) (locs : List Loc) (ls : Array Slot), va_P (dC, dI) vwCl (mW cB cI cJ cZ h0 a cs1) H → va_D A (mW cB cI cJ cZ h0 a cs1) → va_S A s.heap H locs → lv_has ls 11 [(0, .ref h0), (1, .int u1), (2, .int u2), (3, .int u3)] → W p l e (headSpec (wsOf yX12_test cX12_test 11 (some .int)) ({ frames := n + 1 + 10, cells := 0, slots := 0, locals := 60 * (n + 1 + 10) } : Room)).room s m ([.ref h0] : List Value).toArray below meth c H locs 0 0 (MQ below (va_Qi (fun (x : Int32) (_ : Unit) => x = r9) (fun _ t_ => va_P (dC, dI) vwCl (mW cB cI cJ cZ h0 a cs9) t_.heap ∧ va_D A (mW cB cI cJ cZ h0 a cs9)) A) ([.ref h0] : List Value).toArray s 0 0 A) (F0 m 123 ls []) := by
    intro cs1 u1 u2 u3 h H locs ls hP hD hS hl
    unfold m_test_b123 at h
    refine lv_aload_n hx hb dX12_test_123 rfl (lv_at hl 0 rfl) ?_
    refine va_ldcSW (own := RX12) (index := 406) (tx := soT 21) (q := K 21) hx hb hown (hZ.ref 21 (by decide)) dX12_test_124 ?_
    obtain ⟨z_25, hv_25, h⟩ := ob h
    refine calI (As := [.ref (K 21)]) hx hb hml hts hown hK hP hD hS hA hZ (s_takeWord l dC dI cB cI cJ cZ h0 a K V fz F cs1 21 (by decide) z_25.1 z_25.2 hv_25) (cw_takeWord hts (fr := 8) (by show 8 + 1 ≤ n + 1 + 10; omega) (by show 8 + (3 + 11) + 60 * (8) ≤ 60 * (n + 1 + 10); omega)) rfl hl.1 (Nat.le_of_ble_eq_true rfl) ⟨Nat.zero_le _, Nat.zero_le _⟩ dX12_test_127 (fun H locs hP hD hS => ?_)
    refine lv_if_eq (tgt := 180) hx hb dX12_test_130 (by decide) (fun c_26 => ?_) (fun c_26 => ?_)
    · skip
      replace h := (if_pos c_26).symm.trans h
      refine lv_aload_n hx hb dX12_test_180 rfl (lv_at hl 0 rfl) ?_
      refine va_ldcSW (own := RX12) (index := 376) (tx := soT 16) (q := K 16) hx hb hown (hZ.ref 16 (by decide)) dX12_test_181 ?_
      obtain ⟨v_27, hv_27, h⟩ := ob h
      refine calI (As := [.ref (K 16)]) hx hb hml hts hown hK hP hD hS hA hZ (s_isWord l dC dI cB cI cJ cZ h0 a K V fz F z_25.1 16 (by decide) v_27 hv_27) (cw_isWord hts (fr := 7) (by show 7 + 1 ≤ n + 1 + 10; omega) (by show 8 + (2 + 11) + 60 * (7) ≤ 60 * (n + 1 + 10); omega)) rfl hl.1 (Nat.le_of_ble_eq_true rfl) ⟨Nat.zero_le _, Nat.zero_le _⟩ dX12_test_184 (fun H locs hP hD hS => ?_)
      refine lv_if_ne (tgt := 200) hx hb dX12_test_187 (by decide) (fun c_28 => ?_) (fun c_28 => ?_)
      · skip
        replace h := (if_neg c_28).symm.trans h
        exact B_200 z_25.1 u1 u2 u3 h _ _ _ hP hD hS (lv_sub hl [0, 1, 2, 3] rfl)
      · skip
        replace h := (if_pos c_28).symm.trans h
        refine lv_aload_n hx hb dX12_test_190 rfl (lv_at hl 0 rfl) ?_
        refine va_ldcSW (own := RX12) (index := 412) (tx := soT 22) (q := K 22) hx hb hown (hZ.ref 22 (by decide)) dX12_test_191 ?_
        obtain ⟨v_29, hv_29, h⟩ := ob h
        refine calI (As := [.ref (K 22)]) hx hb hml hts hown hK hP hD hS hA hZ (s_isWord l dC dI cB cI cJ cZ h0 a K V fz F z_25.1 22 (by decide) v_29 hv_29) (cw_isWord hts (fr := 7) (by show 7 + 1 ≤ n + 1 + 10; omega) (by show 8 + (2 + 11) + 60 * (7) ≤ 60 * (n + 1 + 10); omega)) rfl hl.1 (Nat.le_of_ble_eq_true rfl) ⟨Nat.zero_le _, Nat.zero_le _⟩ dX12_test_194 (fun H locs hP hD hS => ?_)
        refine lv_if_eq (tgt := 371) hx hb dX12_test_197 (by decide) (fun c_30 => ?_) (fun c_30 => ?_)
        · skip
          replace h := (if_pos c_30).symm.trans h
          exact B_371 z_25.1 u1 u2 h _ _ _ hP hD hS (lv_sub hl [0, 1, 2] rfl)
        · skip
          replace h := (if_neg c_30).symm.trans h
          exact B_200 z_25.1 u1 u2 u3 h _ _ _ hP hD hS (lv_sub hl [0, 1, 2, 3] rfl)
    · skip
      replace h := (if_neg c_26).symm.trans h
      refine lv_aload_n hx hb dX12_test_133 rfl (lv_at hl 0 rfl) ?_
      refine va_ldcSW (own := RX12) (index := 376) (tx := soT 16) (q := K 16) hx hb hown (hZ.ref 16 (by decide)) dX12_test_134 ?_
      obtain ⟨z_31, hv_31, h⟩ := ob h
      refine calI (As := [.ref (K 16)]) hx hb hml hts hown hK hP hD hS hA hZ (s_takeWord l dC dI cB cI cJ cZ h0 a K V fz F z_25.1 16 (by decide) z_31.1 z_31.2 hv_31) (cw_takeWord hts (fr := 8) (by show 8 + 1 ≤ n + 1 + 10; omega) (by show 8 + (3 + 11) + 60 * (8) ≤ 60 * (n + 1 + 10); omega)) rfl hl.1 (Nat.le_of_ble_eq_true rfl) ⟨Nat.zero_le _, Nat.zero_le _⟩ dX12_test_137 (fun H locs hP hD hS => ?_)
      refine lv_istore (lv' := [(5, .int z_31.2), (0, .ref h0), (1, .int u1), (2, .int u2), (3, .int u3)]) hx hb dX12_test_140 hl (by decide) rfl (fun ls hl => ?_)
      refine lv_aload_n hx hb dX12_test_142 rfl (lv_at hl 1 rfl) ?_
      refine va_ldcSW (own := RX12) (index := 364) (tx := soT 9) (q := K 9) hx hb hown (hZ.ref 9 (by decide)) dX12_test_143 ?_
      obtain ⟨cs_32, hv_32, h⟩ := ob h
      refine calV (As := [.ref (K 9)]) hx hb hml hts hown hK hP hD hS hA hZ (s_needWord l dC dI cB cI cJ cZ h0 a K V fz F z_31.1 9 (by decide) cs_32 hv_32) (cw_needWord hts (fr := 9) (by show 9 + 1 ≤ n + 1 + 10; omega) (by show 8 + (2 + 11) + 60 * (9) ≤ 60 * (n + 1 + 10); omega)) rfl hl.1 (Nat.le_of_ble_eq_true rfl) ⟨Nat.zero_le _, Nat.zero_le _⟩ dX12_test_146 (fun H locs hP hD hS => ?_)
      refine lv_aload_n hx hb dX12_test_149 rfl (lv_at hl 1 rfl) ?_
      refine lv_bipush (v := 10) hx hb dX12_test_150 (by decide) ?_
      refine lv_iload_n hx hb dX12_test_152 rfl (lv_at hl 2 rfl) ?_
      refine lv_iconst (v := (-1)) hx hb dX12_test_153 (by decide) ?_
      refine lv_iconst (v := (-1)) hx hb dX12_test_154 (by decide) ?_
      refine lv_iload_n hx hb dX12_test_155 rfl (lv_at hl 3 rfl) ?_
      refine lv_iload_n hx hb dX12_test_156 rfl (lv_at hl 4 rfl) ?_
      obtain ⟨z_33, hv_33, h⟩ := ob h
      refine calI (As := [.int 10, .int u1, .int (-1), .int (-1), .int u2, .int u3]) hx hb hml hts hown hK hP hD hS hA hZ (s_make l dC dI cB cI cJ cZ h0 a K V fz F cs_32 10 u1 (-1) (-1) u2 u3 z_33.1 z_33.2 hv_33) (cw_make hts (fr := 1) (by show 1 + 1 ≤ n + 1 + 10; omega) (by show 8 + (8 + 11) + 60 * (1) ≤ 60 * (n + 1 + 10); omega)) rfl hl.1 (Nat.le_of_ble_eq_true rfl) ⟨Nat.zero_le _, Nat.zero_le _⟩ dX12_test_157 (fun H locs hP hD hS => ?_)
      refine lv_istore_n (lv' := [(1, .int z_33.2), (5, .int z_31.2), (0, .ref h0), (2, .int u2), (3, .int u3)]) hx hb dX12_test_160 rfl hl (by decide) rfl (fun ls hl => ?_)
      refine lv_aload_n hx hb dX12_test_161 rfl (lv_at hl 2 rfl) ?_
      refine fg_27 hx hb hts hown hK hP dX12_test_162 ?_
      refine lv_iload_n hx hb dX12_test_165 rfl (lv_at hl 0 rfl) ?_
      refine lv_iload hx hb dX12_test_166 (lv_at hl 1 rfl) ?_
      refine lv_if_eq (tgt := 175) hx hb dX12_test_168 (by decide) (fun c_34 => ?_) (fun c_34 => ?_)
      · skip
        replace h := (if_pos c_34).symm.trans h
        refine lv_iconst (v := 0) hx hb dX12_test_175 (by decide) ?_
        exact B_176 z_33.1 z_33.2 u2 0 z_33.2 h _ _ _ hP hD hS (lv_sub hl [2, 0, 3] rfl)
      · skip
        replace h := (if_neg c_34).symm.trans h
        refine lv_iconst (v := 1) hx hb dX12_test_171 (by decide) ?_
        refine lv_goto (tgt := 176) hx hb dX12_test_172 (by decide) ?_
        exact B_176 z_33.1 z_33.2 u2 1 z_33.2 h _ _ _ hP hD hS (lv_sub hl [2, 0, 3] rfl)
  have h := hf
  unfold b_test at h
  refine lv_aload_n hx hb dX12_test_0 rfl (lv_at hl 0 rfl) ?_
  obtain ⟨z_35, hv_35, h⟩ := ob h
  refine calI (As := []) hx hb hml hts hown hK hP hD hS hA hZ (hT_sum cs  z_35.1 z_35.2 hv_35) (cw_sum hts (fr := n + 10) (by show n + 10 + 1 ≤ n + 1 + 10; omega) (by show 8 + (6 + 11) + 60 * (n + 10) ≤ 60 * (n + 1 + 10); omega)) rfl hl.1 (Nat.le_of_ble_eq_true rfl) ⟨Nat.zero_le _, Nat.zero_le _⟩ dX12_test_1 (fun H locs hP hD hS => ?_)
  refine lv_istore_n (lv' := [(1, .int z_35.2), (0, .ref h0)]) hx hb dX12_test_4 rfl hl (by decide) rfl (fun ls hl => ?_)
  refine lv_aload_n hx hb dX12_test_5 rfl (lv_at hl 1 rfl) ?_
  refine fg_74 hx hb hts hown hK hP dX12_test_6 ?_
  refine lv_istore_n (lv' := [(2, .int (z_35.1.1 74)), (1, .int z_35.2), (0, .ref h0)]) hx hb dX12_test_9 rfl hl (by decide) rfl (fun ls hl => ?_)
  refine lv_aload_n hx hb dX12_test_10 rfl (lv_at hl 2 rfl) ?_
  refine fg_15 hx hb hts hown hK hP dX12_test_11 ?_
  refine lv_aload_n hx hb dX12_test_14 rfl (lv_at hl 2 rfl) ?_
  refine fg_18 hx hb hts hown hK hP dX12_test_15 ?_
  obtain ⟨v_36, hv_36, h⟩ := ob h
  refine ag_15 hx hb hK hP hv_36 dX12_test_18 ?_
  refine lv_istore_n (lv' := [(3, .int v_36), (2, .int (z_35.1.1 74)), (1, .int z_35.2), (0, .ref h0)]) hx hb dX12_test_19 rfl hl (by decide) rfl (fun ls hl => ?_)
  refine lv_aload_n hx hb dX12_test_20 rfl (lv_at hl 3 rfl) ?_
  refine fg_14 hx hb hts hown hK hP dX12_test_21 ?_
  refine lv_aload_n hx hb dX12_test_24 rfl (lv_at hl 3 rfl) ?_
  refine fg_18 hx hb hts hown hK hP dX12_test_25 ?_
  obtain ⟨v_37, hv_37, h⟩ := ob h
  refine ag_14 hx hb hK hP hv_37 dX12_test_28 ?_
  refine lv_istore (lv' := [(4, .int v_37), (3, .int v_36), (2, .int (z_35.1.1 74)), (1, .int z_35.2), (0, .ref h0)]) hx hb dX12_test_29 hl (by decide) rfl (fun ls hl => ?_)
  refine lv_aload_n hx hb dX12_test_31 rfl (lv_at hl 4 rfl) ?_
  refine fg_21 hx hb hts hown hK hP dX12_test_32 ?_
  refine lv_if_eq (tgt := 123) hx hb dX12_test_35 (by decide) (fun c_38 => ?_) (fun c_38 => ?_)
  · skip
    replace h := (if_pos c_38).symm.trans h
    exact B_123 z_35.1 z_35.2 (z_35.1.1 74) v_36 h _ _ _ hP hD hS (lv_sub hl [4, 3, 2, 1] rfl)
  · skip
    replace h := (if_neg c_38).symm.trans h
    refine lv_iload hx hb dX12_test_38 (lv_at hl 0 rfl) ?_
    refine lv_bipush (v := 61) hx hb dX12_test_40 (by decide) ?_
    refine lv_icmp_eq (tgt := 83) hx hb dX12_test_42 (by decide) (fun c_39 => ?_) (fun c_39 => ?_)
    · skip
      replace h := (if_pos c_39).symm.trans h
      exact B_83 z_35.1 z_35.2 (z_35.1.1 74) v_36 v_37 h _ _ _ hP hD hS (lv_sub hl [4, 3, 2, 1, 0] rfl)
    · skip
      replace h := (if_neg c_39).symm.trans h
      refine lv_iload hx hb dX12_test_45 (lv_at hl 0 rfl) ?_
      refine lv_sipush (v := 400) hx hb dX12_test_47 (by decide) ?_
      refine lv_icmp_eq (tgt := 83) hx hb dX12_test_50 (by decide) (fun c_40 => ?_) (fun c_40 => ?_)
      · skip
        replace h := (if_pos c_40).symm.trans h
        exact B_83 z_35.1 z_35.2 (z_35.1.1 74) v_36 v_37 h _ _ _ hP hD hS (lv_sub hl [4, 3, 2, 1, 0] rfl)
      · skip
        replace h := (if_neg c_40).symm.trans h
        refine lv_iload hx hb dX12_test_53 (lv_at hl 0 rfl) ?_
        refine lv_bipush (v := 60) hx hb dX12_test_55 (by decide) ?_
        refine lv_icmp_eq (tgt := 83) hx hb dX12_test_57 (by decide) (fun c_41 => ?_) (fun c_41 => ?_)
        · skip
          replace h := (if_pos c_41).symm.trans h
          exact B_83 z_35.1 z_35.2 (z_35.1.1 74) v_36 v_37 h _ _ _ hP hD hS (lv_sub hl [4, 3, 2, 1, 0] rfl)
        · skip
          replace h := (if_neg c_41).symm.trans h
          refine lv_iload hx hb dX12_test_60 (lv_at hl 0 rfl) ?_
          refine lv_sipush (v := 401) hx hb dX12_test_62 (by decide) ?_
          refine lv_icmp_eq (tgt := 83) hx hb dX12_test_65 (by decide) (fun c_42 => ?_) (fun c_42 => ?_)
          · skip
            replace h := (if_pos c_42).symm.trans h
            exact B_83 z_35.1 z_35.2 (z_35.1.1 74) v_36 v_37 h _ _ _ hP hD hS (lv_sub hl [4, 3, 2, 1, 0] rfl)
          · skip
            replace h := (if_neg c_42).symm.trans h
            refine lv_iload hx hb dX12_test_68 (lv_at hl 0 rfl) ?_
            refine lv_bipush (v := 62) hx hb dX12_test_70 (by decide) ?_
            refine lv_icmp_eq (tgt := 83) hx hb dX12_test_72 (by decide) (fun c_43 => ?_) (fun c_43 => ?_)
            · skip
              replace h := (if_pos c_43).symm.trans h
              exact B_83 z_35.1 z_35.2 (z_35.1.1 74) v_36 v_37 h _ _ _ hP hD hS (lv_sub hl [4, 3, 2, 1, 0] rfl)
            · skip
              replace h := (if_neg c_43).symm.trans h
              refine lv_iload hx hb dX12_test_75 (lv_at hl 0 rfl) ?_
              refine lv_sipush (v := 402) hx hb dX12_test_77 (by decide) ?_
              refine lv_icmp_ne (tgt := 123) hx hb dX12_test_80 (by decide) (fun c_44 => ?_) (fun c_44 => ?_)
              · skip
                replace h := (if_neg c_44).symm.trans h
                exact B_123 z_35.1 z_35.2 (z_35.1.1 74) v_36 h _ _ _ hP hD hS (lv_sub hl [4, 3, 2, 1] rfl)
              · skip
                replace h := (if_pos c_44).symm.trans h
                exact B_83 z_35.1 z_35.2 (z_35.1.1 74) v_36 v_37 h _ _ _ hP hD hS (lv_sub hl [4, 3, 2, 1, 0] rfl)
set_option maxHeartbeats 4000000 in
set_option maxRecDepth 100000 in
theorem sb_sum (l : Launch) (dC : Nat → ClassId) (dI : Nat → Nat → Nat) (cB cI cJ cZ : ClassId) (h0 : Nat) (a : Nat → Nat) (K V : Nat → Nat) (fz : Value) (F : Nat) (n : Nat) (T : TG_expr) (hT_expr : ∀ (cs : RS) (cs9 : RS) (r9 : Int32), T.1 cs = some (cs9, r9) → okI l dC dI cB cI cJ cZ h0 a K V fz yX12_expr (wsOf yX12_expr cX12_expr 5 (some .int)) (n + 10) [.ref h0] cs cs9 r9) (hT_andExpr : ∀ (cs : RS) (cs9 : RS) (r9 : Int32), T.2.1 cs = some (cs9, r9) → okI l dC dI cB cI cJ cZ h0 a K V fz yX12_andExpr (wsOf yX12_andExpr cX12_andExpr 5 (some .int)) (n + 10) [.ref h0] cs cs9 r9) (hT_notExpr : ∀ (cs : RS) (cs9 : RS) (r9 : Int32), T.2.2.1 cs = some (cs9, r9) → okI l dC dI cB cI cJ cZ h0 a K V fz yX12_notExpr (wsOf yX12_notExpr cX12_notExpr 3 (some .int)) (n + 10) [.ref h0] cs cs9 r9) (hT_test : ∀ (cs : RS) (cs9 : RS) (r9 : Int32), T.2.2.2.1 cs = some (cs9, r9) → okI l dC dI cB cI cJ cZ h0 a K V fz yX12_test (wsOf yX12_test cX12_test 11 (some .int)) (n + 10) [.ref h0] cs cs9 r9) (hT_sum : ∀ (cs : RS) (cs9 : RS) (r9 : Int32), T.2.2.2.2.1 cs = some (cs9, r9) → okI l dC dI cB cI cJ cZ h0 a K V fz yX12_sum (wsOf yX12_sum cX12_sum 6 (some .int)) (n + 10) [.ref h0] cs cs9 r9) (hT_part : ∀ (cs : RS) (cs9 : RS) (r9 : Int32), T.2.2.2.2.2.1 cs = some (cs9, r9) → okI l dC dI cB cI cJ cZ h0 a K V fz yX12_part (wsOf yX12_part cX12_part 6 (some .int)) (n + 10) [.ref h0] cs cs9 r9) (hT_sign : ∀ (cs : RS) (cs9 : RS) (r9 : Int32), T.2.2.2.2.2.2.1 cs = some (cs9, r9) → okI l dC dI cB cI cJ cZ h0 a K V fz yX12_sign (wsOf yX12_sign cX12_sign 3 (some .int)) (n + 10) [.ref h0] cs cs9 r9) (hT_one : ∀ (cs : RS) (cs9 : RS) (r9 : Int32), T.2.2.2.2.2.2.2.1 cs = some (cs9, r9) → okI l dC dI cB cI cJ cZ h0 a K V fz yX12_one (wsOf yX12_one cX12_one 6 (some .int)) (n + 10) [.ref h0] cs cs9 r9) (hT_aggregate : ∀ (cs : RS) (x1 : Int32) (cs9 : RS) (r9 : Int32), T.2.2.2.2.2.2.2.2 cs x1 = some (cs9, r9) → okI l dC dI cB cI cJ cZ h0 a K V fz yX12_aggregate (wsOf yX12_aggregate cX12_aggregate 4 (some .int)) (n + 10) [.ref h0, .int x1] cs cs9 r9) (cs : RS) (cs9 : RS) (r9 : Int32) (hf : b_sum F T cs = some (cs9, r9)) : okI l dC dI cB cI cJ cZ h0 a K V fz yX12_sum (wsOf yX12_sum cX12_sum 6 (some .int)) (n + 1 + 10) [.ref h0] cs cs9 r9 := by
  intro sz
  refine Met.ofW (cc := cX12_sum) (maxL := 6) (ret := (some .int)) (by decide) rfl ?_
  intro p e s m args below meth c s₁ B hml hv
  obtain ⟨rfl, hsz, hP, hK, hD0, hZ⟩ := hv
  have hx := B.exec
  have hb := B.bytes
  have hr := B.returns
  have hts := atoms_spec (ws := (wsOf yX12_sum cX12_sum 6 (some .int))) B.pre
  have hown : s.vm.findClass RX12 = some m.cls := findClass_of_methodNamed B.named
  have hlocks := B.notSynchronized
  subst hsz
  have hD := hD0.self (sz := s.heap.size)
  generalize hAe : va_A (mW cB cI cJ cZ h0 a cs) s.heap.size = A at hD hZ ⊢
  have hA : ∀ q : Nat, s.heap.size ≤ q → A q := fun q h => by rw [← hAe]; exact Or.inr h
  have hS : va_S A s.heap s.heap [] := va_S.rf
  have hl := lv_entry ([.ref h0]) (n := 6) (Nat.le_of_ble_eq_true rfl)
  rw [lg_entry_eq]
  generalize (lg_sl ([.ref h0]) ++ List.replicate (6 - (lg_sl ([.ref h0])).length) Slot.unset).toArray = ls at hl ⊢
  have hl : lv_has ls 6 [(0, .ref h0)] := hl
  have L_10 : ∀ (lf_10 : Nat), ∀ (cs1 : RS) (u1 : Int32) (u2 : Int32), m_sum_L10 F T lf_10 cs1 u1 u2 = some (cs9, r9) → ∀ (H : Heap) (locs : List Loc) (ls : Array Slot), va_P (dC, dI) vwCl (mW cB cI cJ cZ h0 a cs1) H → va_D A (mW cB cI cJ cZ h0 a cs1) → va_S A s.heap H locs → lv_has ls 6 [(0, .ref h0), (1, .int u1), (2, .int u2)] → W p l e (headSpec (wsOf yX12_sum cX12_sum 6 (some .int)) ({ frames := n + 1 + 10, cells := 0, slots := 0, locals := 60 * (n + 1 + 10) } : Room)).room s m ([.ref h0] : List Value).toArray below meth c H locs 0 0 (MQ below (va_Qi (fun (x : Int32) (_ : Unit) => x = r9) (fun _ t_ => va_P (dC, dI) vwCl (mW cB cI cJ cZ h0 a cs9) t_.heap ∧ va_D A (mW cB cI cJ cZ h0 a cs9)) A) ([.ref h0] : List Value).toArray s 0 0 A) (F0 m 10 ls []) := by
    intro lf_10
    induction lf_10 with
    | zero => intro cs1 u1 u2 h; cases (show (none : Option (RS × Int32)) = _ from h)
    | succ lf_10 ih_10 =>
      have B_59 : ∀ (cs1 : RS) (u1 : Int32) (u2 : Int32) (u3 : Int32) (y0 : Int32), m_sum_b59 F T (m_sum_L10 F T lf_10) cs1 u1 u2 u3 y0 = some (cs9, r9) → ∀ (H : Heap) (locs : List Loc) (ls : Array Slot), va_P (dC, dI) vwCl (mW cB cI cJ cZ h0 a cs1) H → va_D A (mW cB cI cJ cZ h0 a cs1) → va_S A s.heap H locs → lv_has ls 6 [(0, .ref h0), (1, .int u1), (2, .int u2), (3, .int u3)] → W p l e (headSpec (wsOf yX12_sum cX12_sum 6 (some .int)) ({ frames := n + 1 + 10, cells := 0, slots := 0, locals := 60 * (n + 1 + 10) } : Room)).room s m ([.ref h0] : List Value).toArray below meth c H locs 0 0 (MQ below (va_Qi (fun (x : Int32) (_ : Unit) => x = r9) (fun _ t_ => va_P (dC, dI) vwCl (mW cB cI cJ cZ h0 a cs9) t_.heap ∧ va_D A (mW cB cI cJ cZ h0 a cs9)) A) ([.ref h0] : List Value).toArray s 0 0 A) (F0 m 59 ls [.int y0]) := by
        intro cs1 u1 u2 u3 y0 h H locs ls hP hD hS hl
        unfold m_sum_b59 at h
        refine lv_istore (lv' := [(4, .int y0), (0, .ref h0), (1, .int u1), (2, .int u2), (3, .int u3)]) hx hb dX12_sum_59 hl (by decide) rfl (fun ls hl => ?_)
        refine lv_aload_n hx hb dX12_sum_61 rfl (lv_at hl 1 rfl) ?_
        refine lv_dup hx hb dX12_sum_62 rfl ?_
        refine fg_18 hx hb hts hown hK hP dX12_sum_63 ?_
        refine lv_iconst (v := 1) hx hb dX12_sum_66 (by decide) ?_
        refine lv_iadd hx hb dX12_sum_67 ?_
        refine fp_18 hx hb hts hown hK hP hD hS dX12_sum_68 (fun H locs hP hD hS => ?_)
        refine lv_aload_n hx hb dX12_sum_71 rfl (lv_at hl 1 rfl) ?_
        obtain ⟨z_1, hv_1, h⟩ := ob h
        refine calI (As := []) hx hb hml hts hown hK hP hD hS hA hZ (hT_part (setF cs1 18 ((cs1.1 18) + 1))  z_1.1 z_1.2 hv_1) (cw_part hts (fr := n + 10) (by show n + 10 + 1 ≤ n + 1 + 10; omega) (by show 8 + (6 + 11) + 60 * (n + 10) ≤ 60 * (n + 1 + 10); omega)) rfl hl.1 (Nat.le_of_ble_eq_true rfl) ⟨Nat.zero_le _, Nat.zero_le _⟩ dX12_sum_72 (fun H locs hP hD hS => ?_)
        refine lv_istore (lv' := [(5, .int z_1.2), (4, .int y0), (0, .ref h0), (1, .int u1), (2, .int u2), (3, .int u3)]) hx hb dX12_sum_75 hl (by decide) rfl (fun ls hl => ?_)
        refine lv_aload_n hx hb dX12_sum_77 rfl (lv_at hl 2 rfl) ?_
        refine lv_iload hx hb dX12_sum_78 (lv_at hl 1 rfl) ?_
        refine lv_iload_n hx hb dX12_sum_80 rfl (lv_at hl 3 rfl) ?_
        refine lv_iload hx hb dX12_sum_81 (lv_at hl 0 rfl) ?_
        refine lv_iconst (v := (-1)) hx hb dX12_sum_83 (by decide) ?_
        refine lv_iload_n hx hb dX12_sum_84 rfl (lv_at hl 4 rfl) ?_
        refine lv_iload_n hx hb dX12_sum_85 rfl (lv_at hl 5 rfl) ?_
        obtain ⟨z_2, hv_2, h⟩ := ob h
        refine calI (As := [.int y0, .int u1, .int z_1.2, .int (-1), .int u2, .int u3]) hx hb hml hts hown hK hP hD hS hA hZ (s_make l dC dI cB cI cJ cZ h0 a K V fz F z_1.1 y0 u1 z_1.2 (-1) u2 u3 z_2.1 z_2.2 hv_2) (cw_make hts (fr := 1) (by show 1 + 1 ≤ n + 1 + 10; omega) (by show 8 + (8 + 11) + 60 * (1) ≤ 60 * (n + 1 + 10); omega)) rfl hl.1 (Nat.le_of_ble_eq_true rfl) ⟨Nat.zero_le _, Nat.zero_le _⟩ dX12_sum_86 (fun H locs hP hD hS => ?_)
        refine lv_istore_n (lv' := [(1, .int z_2.2), (5, .int z_1.2), (4, .int y0), (0, .ref h0), (2, .int u2), (3, .int u3)]) hx hb dX12_sum_89 rfl hl (by decide) rfl (fun ls hl => ?_)
        refine lv_goto (tgt := 10) hx hb dX12_sum_90 (by decide) ?_
        exact ih_10 z_2.1 z_2.2 u2 h _ _ _ hP hD hS (lv_sub hl [3, 0, 4] rfl)
      have B_28 : ∀ (cs1 : RS) (u1 : Int32) (u2 : Int32), m_sum_b28 F T (m_sum_L10 F T lf_10) cs1 u1 u2 = some (cs9, r9) → ∀ (H : Heap) (locs : List Loc) (ls : Array Slot), va_P (dC, dI) vwCl (mW cB cI cJ cZ h0 a cs1) H → va_D A (mW cB cI cJ cZ h0 a cs1) → va_S A s.heap H locs → lv_has ls 6 [(0, .ref h0), (1, .int u1), (2, .int u2)] → W p l e (headSpec (wsOf yX12_sum cX12_sum 6 (some .int)) ({ frames := n + 1 + 10, cells := 0, slots := 0, locals := 60 * (n + 1 + 10) } : Room)).room s m ([.ref h0] : List Value).toArray below meth c H locs 0 0 (MQ below (va_Qi (fun (x : Int32) (_ : Unit) => x = r9) (fun _ t_ => va_P (dC, dI) vwCl (mW cB cI cJ cZ h0 a cs9) t_.heap ∧ va_D A (mW cB cI cJ cZ h0 a cs9)) A) ([.ref h0] : List Value).toArray s 0 0 A) (F0 m 28 ls []) := by
        intro cs1 u1 u2 h H locs ls hP hD hS hl
        unfold m_sum_b28 at h
        refine lv_aload_n hx hb dX12_sum_28 rfl (lv_at hl 0 rfl) ?_
        refine fg_15 hx hb hts hown hK hP dX12_sum_29 ?_
        refine lv_aload_n hx hb dX12_sum_32 rfl (lv_at hl 0 rfl) ?_
        refine fg_18 hx hb hts hown hK hP dX12_sum_33 ?_
        obtain ⟨v_3, hv_3, h⟩ := ob h
        refine ag_15 hx hb hK hP hv_3 dX12_sum_36 ?_
        refine lv_istore_n (lv' := [(3, .int v_3), (0, .ref h0), (1, .int u1), (2, .int u2)]) hx hb dX12_sum_37 rfl hl (by decide) rfl (fun ls hl => ?_)
        refine lv_aload_n hx hb dX12_sum_38 rfl (lv_at hl 1 rfl) ?_
        refine fg_14 hx hb hts hown hK hP dX12_sum_39 ?_
        refine lv_aload_n hx hb dX12_sum_42 rfl (lv_at hl 1 rfl) ?_
        refine fg_18 hx hb hts hown hK hP dX12_sum_43 ?_
        obtain ⟨v_4, hv_4, h⟩ := ob h
        refine ag_14 hx hb hK hP hv_4 dX12_sum_46 ?_
        refine lv_bipush (v := 43) hx hb dX12_sum_47 (by decide) ?_
        refine lv_icmp_ne (tgt := 57) hx hb dX12_sum_49 (by decide) (fun c_5 => ?_) (fun c_5 => ?_)
        · skip
          replace h := (if_neg c_5).symm.trans h
          refine lv_bipush (v := 13) hx hb dX12_sum_57 (by decide) ?_
          exact B_59 cs1 u1 u2 v_3 13 h _ _ _ hP hD hS (lv_sub hl [1, 2, 3, 0] rfl)
        · skip
          replace h := (if_pos c_5).symm.trans h
          refine lv_bipush (v := 12) hx hb dX12_sum_52 (by decide) ?_
          refine lv_goto (tgt := 59) hx hb dX12_sum_54 (by decide) ?_
          exact B_59 cs1 u1 u2 v_3 12 h _ _ _ hP hD hS (lv_sub hl [1, 2, 3, 0] rfl)
      intro cs1 u1 u2 h H locs ls hP hD hS hl
      rw [m_sum_L10] at h
      refine lv_aload_n hx hb dX12_sum_10 rfl (lv_at hl 0 rfl) ?_
      refine lv_bipush (v := 43) hx hb dX12_sum_11 (by decide) ?_
      obtain ⟨v_6, hv_6, h⟩ := ob h
      refine calI (As := [.int 43]) hx hb hml hts hown hK hP hD hS hA hZ (s_isSign l dC dI cB cI cJ cZ h0 a K V fz F cs1 43 v_6 hv_6) (cw_isSign hts (fr := 0) (by show 0 + 1 ≤ n + 1 + 10; omega) (by show 8 + (2 + 11) + 60 * (0) ≤ 60 * (n + 1 + 10); omega)) rfl hl.1 (Nat.le_of_ble_eq_true rfl) ⟨Nat.zero_le _, Nat.zero_le _⟩ dX12_sum_13 (fun H locs hP hD hS => ?_)
      refine lv_if_ne (tgt := 28) hx hb dX12_sum_16 (by decide) (fun c_7 => ?_) (fun c_7 => ?_)
      · skip
        replace h := (if_neg c_7).symm.trans h
        exact B_28 cs1 u1 u2 h _ _ _ hP hD hS (lv_sub hl [0, 1, 2] rfl)
      · skip
        replace h := (if_pos c_7).symm.trans h
        refine lv_aload_n hx hb dX12_sum_19 rfl (lv_at hl 0 rfl) ?_
        refine lv_bipush (v := 45) hx hb dX12_sum_20 (by decide) ?_
        obtain ⟨v_8, hv_8, h⟩ := ob h
        refine calI (As := [.int 45]) hx hb hml hts hown hK hP hD hS hA hZ (s_isSign l dC dI cB cI cJ cZ h0 a K V fz F cs1 45 v_8 hv_8) (cw_isSign hts (fr := 0) (by show 0 + 1 ≤ n + 1 + 10; omega) (by show 8 + (2 + 11) + 60 * (0) ≤ 60 * (n + 1 + 10); omega)) rfl hl.1 (Nat.le_of_ble_eq_true rfl) ⟨Nat.zero_le _, Nat.zero_le _⟩ dX12_sum_22 (fun H locs hP hD hS => ?_)
        refine lv_if_eq (tgt := 93) hx hb dX12_sum_25 (by decide) (fun c_9 => ?_) (fun c_9 => ?_)
        · skip
          replace h := (if_pos c_9).symm.trans h
          refine lv_aload_n hx hb dX12_sum_93 rfl (lv_at hl 0 rfl) ?_
          refine lv_iload_n hx hb dX12_sum_94 rfl (lv_at hl 2 rfl) ?_
          refine fp_74 hx hb hts hown hK hP hD hS dX12_sum_95 (fun H locs hP hD hS => ?_)
          refine lv_iload_n hx hb dX12_sum_98 rfl (lv_at hl 1 rfl) ?_
          obtain ⟨e1, e2⟩ := Prod.mk.inj (Option.some.inj h)
          rw [e1] at hP hD
          exact W.iret (v := u1) hx hb hr (fun t_ ht hW => ⟨⟨u1, (), rfl, e2, by rw [ht]; exact hP, hD⟩, hS.F ht⟩) hS.2.2 dX12_sum_99
        · skip
          replace h := (if_neg c_9).symm.trans h
          exact B_28 cs1 u1 u2 h _ _ _ hP hD hS (lv_sub hl [0, 1, 2] rfl)
  have h := hf
  unfold b_sum at h
  refine lv_aload_n hx hb dX12_sum_0 rfl (lv_at hl 0 rfl) ?_
  obtain ⟨z_10, hv_10, h⟩ := ob h
  refine calI (As := []) hx hb hml hts hown hK hP hD hS hA hZ (hT_part cs  z_10.1 z_10.2 hv_10) (cw_part hts (fr := n + 10) (by show n + 10 + 1 ≤ n + 1 + 10; omega) (by show 8 + (6 + 11) + 60 * (n + 10) ≤ 60 * (n + 1 + 10); omega)) rfl hl.1 (Nat.le_of_ble_eq_true rfl) ⟨Nat.zero_le _, Nat.zero_le _⟩ dX12_sum_1 (fun H locs hP hD hS => ?_)
  refine lv_istore_n (lv' := [(1, .int z_10.2), (0, .ref h0)]) hx hb dX12_sum_4 rfl hl (by decide) rfl (fun ls hl => ?_)
  refine lv_aload_n hx hb dX12_sum_5 rfl (lv_at hl 1 rfl) ?_
  refine fg_74 hx hb hts hown hK hP dX12_sum_6 ?_
  refine lv_istore_n (lv' := [(2, .int (z_10.1.1 74)), (1, .int z_10.2), (0, .ref h0)]) hx hb dX12_sum_9 rfl hl (by decide) rfl (fun ls hl => ?_)
  exact L_10 F z_10.1 z_10.2 (z_10.1.1 74) h _ _ _ hP hD hS (lv_sub hl [2, 1, 0] rfl)
set_option maxHeartbeats 4000000 in
set_option maxRecDepth 100000 in
theorem sb_part (l : Launch) (dC : Nat → ClassId) (dI : Nat → Nat → Nat) (cB cI cJ cZ : ClassId) (h0 : Nat) (a : Nat → Nat) (K V : Nat → Nat) (fz : Value) (F : Nat) (n : Nat) (T : TG_expr) (hT_expr : ∀ (cs : RS) (cs9 : RS) (r9 : Int32), T.1 cs = some (cs9, r9) → okI l dC dI cB cI cJ cZ h0 a K V fz yX12_expr (wsOf yX12_expr cX12_expr 5 (some .int)) (n + 10) [.ref h0] cs cs9 r9) (hT_andExpr : ∀ (cs : RS) (cs9 : RS) (r9 : Int32), T.2.1 cs = some (cs9, r9) → okI l dC dI cB cI cJ cZ h0 a K V fz yX12_andExpr (wsOf yX12_andExpr cX12_andExpr 5 (some .int)) (n + 10) [.ref h0] cs cs9 r9) (hT_notExpr : ∀ (cs : RS) (cs9 : RS) (r9 : Int32), T.2.2.1 cs = some (cs9, r9) → okI l dC dI cB cI cJ cZ h0 a K V fz yX12_notExpr (wsOf yX12_notExpr cX12_notExpr 3 (some .int)) (n + 10) [.ref h0] cs cs9 r9) (hT_test : ∀ (cs : RS) (cs9 : RS) (r9 : Int32), T.2.2.2.1 cs = some (cs9, r9) → okI l dC dI cB cI cJ cZ h0 a K V fz yX12_test (wsOf yX12_test cX12_test 11 (some .int)) (n + 10) [.ref h0] cs cs9 r9) (hT_sum : ∀ (cs : RS) (cs9 : RS) (r9 : Int32), T.2.2.2.2.1 cs = some (cs9, r9) → okI l dC dI cB cI cJ cZ h0 a K V fz yX12_sum (wsOf yX12_sum cX12_sum 6 (some .int)) (n + 10) [.ref h0] cs cs9 r9) (hT_part : ∀ (cs : RS) (cs9 : RS) (r9 : Int32), T.2.2.2.2.2.1 cs = some (cs9, r9) → okI l dC dI cB cI cJ cZ h0 a K V fz yX12_part (wsOf yX12_part cX12_part 6 (some .int)) (n + 10) [.ref h0] cs cs9 r9) (hT_sign : ∀ (cs : RS) (cs9 : RS) (r9 : Int32), T.2.2.2.2.2.2.1 cs = some (cs9, r9) → okI l dC dI cB cI cJ cZ h0 a K V fz yX12_sign (wsOf yX12_sign cX12_sign 3 (some .int)) (n + 10) [.ref h0] cs cs9 r9) (hT_one : ∀ (cs : RS) (cs9 : RS) (r9 : Int32), T.2.2.2.2.2.2.2.1 cs = some (cs9, r9) → okI l dC dI cB cI cJ cZ h0 a K V fz yX12_one (wsOf yX12_one cX12_one 6 (some .int)) (n + 10) [.ref h0] cs cs9 r9) (hT_aggregate : ∀ (cs : RS) (x1 : Int32) (cs9 : RS) (r9 : Int32), T.2.2.2.2.2.2.2.2 cs x1 = some (cs9, r9) → okI l dC dI cB cI cJ cZ h0 a K V fz yX12_aggregate (wsOf yX12_aggregate cX12_aggregate 4 (some .int)) (n + 10) [.ref h0, .int x1] cs cs9 r9) (cs : RS) (cs9 : RS) (r9 : Int32) (hf : b_part F T cs = some (cs9, r9)) : okI l dC dI cB cI cJ cZ h0 a K V fz yX12_part (wsOf yX12_part cX12_part 6 (some .int)) (n + 1 + 10) [.ref h0] cs cs9 r9 := by
  intro sz
  refine Met.ofW (cc := cX12_part) (maxL := 6) (ret := (some .int)) (by decide) rfl ?_
  intro p e s m args below meth c s₁ B hml hv
  obtain ⟨rfl, hsz, hP, hK, hD0, hZ⟩ := hv
  have hx := B.exec
  have hb := B.bytes
  have hr := B.returns
  have hts := atoms_spec (ws := (wsOf yX12_part cX12_part 6 (some .int))) B.pre
  have hown : s.vm.findClass RX12 = some m.cls := findClass_of_methodNamed B.named
  have hlocks := B.notSynchronized
  subst hsz
  have hD := hD0.self (sz := s.heap.size)
  generalize hAe : va_A (mW cB cI cJ cZ h0 a cs) s.heap.size = A at hD hZ ⊢
  have hA : ∀ q : Nat, s.heap.size ≤ q → A q := fun q h => by rw [← hAe]; exact Or.inr h
  have hS : va_S A s.heap s.heap [] := va_S.rf
  have hl := lv_entry ([.ref h0]) (n := 6) (Nat.le_of_ble_eq_true rfl)
  rw [lg_entry_eq]
  generalize (lg_sl ([.ref h0]) ++ List.replicate (6 - (lg_sl ([.ref h0])).length) Slot.unset).toArray = ls at hl ⊢
  have hl : lv_has ls 6 [(0, .ref h0)] := hl
  have L_10 : ∀ (lf_10 : Nat), ∀ (cs1 : RS) (u1 : Int32) (u2 : Int32), m_part_L10 F T lf_10 cs1 u1 u2 = some (cs9, r9) → ∀ (H : Heap) (locs : List Loc) (ls : Array Slot), va_P (dC, dI) vwCl (mW cB cI cJ cZ h0 a cs1) H → va_D A (mW cB cI cJ cZ h0 a cs1) → va_S A s.heap H locs → lv_has ls 6 [(0, .ref h0), (1, .int u1), (2, .int u2)] → W p l e (headSpec (wsOf yX12_part cX12_part 6 (some .int)) ({ frames := n + 1 + 10, cells := 0, slots := 0, locals := 60 * (n + 1 + 10) } : Room)).room s m ([.ref h0] : List Value).toArray below meth c H locs 0 0 (MQ below (va_Qi (fun (x : Int32) (_ : Unit) => x = r9) (fun _ t_ => va_P (dC, dI) vwCl (mW cB cI cJ cZ h0 a cs9) t_.heap ∧ va_D A (mW cB cI cJ cZ h0 a cs9)) A) ([.ref h0] : List Value).toArray s 0 0 A) (F0 m 10 ls []) := by
    intro lf_10
    induction lf_10 with
    | zero => intro cs1 u1 u2 h; cases (show (none : Option (RS × Int32)) = _ from h)
    | succ lf_10 ih_10 =>
      have B_87 : ∀ (cs1 : RS) (u1 : Int32) (u2 : Int32) (u3 : Int32) (y0 : Int32), m_part_b87 F T (m_part_L10 F T lf_10) cs1 u1 u2 u3 y0 = some (cs9, r9) → ∀ (H : Heap) (locs : List Loc) (ls : Array Slot), va_P (dC, dI) vwCl (mW cB cI cJ cZ h0 a cs1) H → va_D A (mW cB cI cJ cZ h0 a cs1) → va_S A s.heap H locs → lv_has ls 6 [(0, .ref h0), (1, .int u1), (2, .int u2), (3, .int u3)] → W p l e (headSpec (wsOf yX12_part cX12_part 6 (some .int)) ({ frames := n + 1 + 10, cells := 0, slots := 0, locals := 60 * (n + 1 + 10) } : Room)).room s m ([.ref h0] : List Value).toArray below meth c H locs 0 0 (MQ below (va_Qi (fun (x : Int32) (_ : Unit) => x = r9) (fun _ t_ => va_P (dC, dI) vwCl (mW cB cI cJ cZ h0 a cs9) t_.heap ∧ va_D A (mW cB cI cJ cZ h0 a cs9)) A) ([.ref h0] : List Value).toArray s 0 0 A) (F0 m 87 ls [.int y0]) := by
        intro cs1 u1 u2 u3 y0 h H locs ls hP hD hS hl
        unfold m_part_b87 at h
        refine lv_istore (lv' := [(4, .int y0), (0, .ref h0), (1, .int u1), (2, .int u2), (3, .int u3)]) hx hb dX12_part_87 hl (by decide) rfl (fun ls hl => ?_)
        refine lv_aload_n hx hb dX12_part_89 rfl (lv_at hl 1 rfl) ?_
        refine lv_dup hx hb dX12_part_90 rfl ?_
        refine fg_18 hx hb hts hown hK hP dX12_part_91 ?_
        refine lv_iconst (v := 1) hx hb dX12_part_94 (by decide) ?_
        refine lv_iadd hx hb dX12_part_95 ?_
        refine fp_18 hx hb hts hown hK hP hD hS dX12_part_96 (fun H locs hP hD hS => ?_)
        refine lv_aload_n hx hb dX12_part_99 rfl (lv_at hl 1 rfl) ?_
        obtain ⟨z_1, hv_1, h⟩ := ob h
        refine calI (As := []) hx hb hml hts hown hK hP hD hS hA hZ (hT_sign (setF cs1 18 ((cs1.1 18) + 1))  z_1.1 z_1.2 hv_1) (cw_sign hts (fr := n + 10) (by show n + 10 + 1 ≤ n + 1 + 10; omega) (by show 8 + (3 + 11) + 60 * (n + 10) ≤ 60 * (n + 1 + 10); omega)) rfl hl.1 (Nat.le_of_ble_eq_true rfl) ⟨Nat.zero_le _, Nat.zero_le _⟩ dX12_part_100 (fun H locs hP hD hS => ?_)
        refine lv_istore (lv' := [(5, .int z_1.2), (4, .int y0), (0, .ref h0), (1, .int u1), (2, .int u2), (3, .int u3)]) hx hb dX12_part_103 hl (by decide) rfl (fun ls hl => ?_)
        refine lv_aload_n hx hb dX12_part_105 rfl (lv_at hl 2 rfl) ?_
        refine lv_iload hx hb dX12_part_106 (lv_at hl 1 rfl) ?_
        refine lv_iload_n hx hb dX12_part_108 rfl (lv_at hl 3 rfl) ?_
        refine lv_iload hx hb dX12_part_109 (lv_at hl 0 rfl) ?_
        refine lv_iconst (v := (-1)) hx hb dX12_part_111 (by decide) ?_
        refine lv_iload_n hx hb dX12_part_112 rfl (lv_at hl 4 rfl) ?_
        refine lv_iload_n hx hb dX12_part_113 rfl (lv_at hl 5 rfl) ?_
        obtain ⟨z_2, hv_2, h⟩ := ob h
        refine calI (As := [.int y0, .int u1, .int z_1.2, .int (-1), .int u2, .int u3]) hx hb hml hts hown hK hP hD hS hA hZ (s_make l dC dI cB cI cJ cZ h0 a K V fz F z_1.1 y0 u1 z_1.2 (-1) u2 u3 z_2.1 z_2.2 hv_2) (cw_make hts (fr := 1) (by show 1 + 1 ≤ n + 1 + 10; omega) (by show 8 + (8 + 11) + 60 * (1) ≤ 60 * (n + 1 + 10); omega)) rfl hl.1 (Nat.le_of_ble_eq_true rfl) ⟨Nat.zero_le _, Nat.zero_le _⟩ dX12_part_114 (fun H locs hP hD hS => ?_)
        refine lv_istore_n (lv' := [(1, .int z_2.2), (5, .int z_1.2), (4, .int y0), (0, .ref h0), (2, .int u2), (3, .int u3)]) hx hb dX12_part_117 rfl hl (by decide) rfl (fun ls hl => ?_)
        refine lv_goto (tgt := 10) hx hb dX12_part_118 (by decide) ?_
        exact ih_10 z_2.1 z_2.2 u2 h _ _ _ hP hD hS (lv_sub hl [3, 0, 4] rfl)
      have B_37 : ∀ (cs1 : RS) (u1 : Int32) (u2 : Int32), m_part_b37 F T (m_part_L10 F T lf_10) cs1 u1 u2 = some (cs9, r9) → ∀ (H : Heap) (locs : List Loc) (ls : Array Slot), va_P (dC, dI) vwCl (mW cB cI cJ cZ h0 a cs1) H → va_D A (mW cB cI cJ cZ h0 a cs1) → va_S A s.heap H locs → lv_has ls 6 [(0, .ref h0), (1, .int u1), (2, .int u2)] → W p l e (headSpec (wsOf yX12_part cX12_part 6 (some .int)) ({ frames := n + 1 + 10, cells := 0, slots := 0, locals := 60 * (n + 1 + 10) } : Room)).room s m ([.ref h0] : List Value).toArray below meth c H locs 0 0 (MQ below (va_Qi (fun (x : Int32) (_ : Unit) => x = r9) (fun _ t_ => va_P (dC, dI) vwCl (mW cB cI cJ cZ h0 a cs9) t_.heap ∧ va_D A (mW cB cI cJ cZ h0 a cs9)) A) ([.ref h0] : List Value).toArray s 0 0 A) (F0 m 37 ls []) := by
        intro cs1 u1 u2 h H locs ls hP hD hS hl
        unfold m_part_b37 at h
        refine lv_aload_n hx hb dX12_part_37 rfl (lv_at hl 0 rfl) ?_
        refine fg_15 hx hb hts hown hK hP dX12_part_38 ?_
        refine lv_aload_n hx hb dX12_part_41 rfl (lv_at hl 0 rfl) ?_
        refine fg_18 hx hb hts hown hK hP dX12_part_42 ?_
        obtain ⟨v_3, hv_3, h⟩ := ob h
        refine ag_15 hx hb hK hP hv_3 dX12_part_45 ?_
        refine lv_istore_n (lv' := [(3, .int v_3), (0, .ref h0), (1, .int u1), (2, .int u2)]) hx hb dX12_part_46 rfl hl (by decide) rfl (fun ls hl => ?_)
        refine lv_aload_n hx hb dX12_part_47 rfl (lv_at hl 1 rfl) ?_
        refine fg_14 hx hb hts hown hK hP dX12_part_48 ?_
        refine lv_aload_n hx hb dX12_part_51 rfl (lv_at hl 1 rfl) ?_
        refine fg_18 hx hb hts hown hK hP dX12_part_52 ?_
        obtain ⟨v_4, hv_4, h⟩ := ob h
        refine ag_14 hx hb hK hP hv_4 dX12_part_55 ?_
        refine lv_bipush (v := 42) hx hb dX12_part_56 (by decide) ?_
        refine lv_icmp_ne (tgt := 66) hx hb dX12_part_58 (by decide) (fun c_5 => ?_) (fun c_5 => ?_)
        · skip
          replace h := (if_neg c_5).symm.trans h
          refine lv_aload_n hx hb dX12_part_66 rfl (lv_at hl 1 rfl) ?_
          refine fg_14 hx hb hts hown hK hP dX12_part_67 ?_
          refine lv_aload_n hx hb dX12_part_70 rfl (lv_at hl 1 rfl) ?_
          refine fg_18 hx hb hts hown hK hP dX12_part_71 ?_
          obtain ⟨v_6, hv_6, h⟩ := ob h
          refine ag_14 hx hb hK hP hv_6 dX12_part_74 ?_
          refine lv_bipush (v := 47) hx hb dX12_part_75 (by decide) ?_
          refine lv_icmp_ne (tgt := 85) hx hb dX12_part_77 (by decide) (fun c_7 => ?_) (fun c_7 => ?_)
          · skip
            replace h := (if_neg c_7).symm.trans h
            refine lv_bipush (v := 16) hx hb dX12_part_85 (by decide) ?_
            exact B_87 cs1 u1 u2 v_3 16 h _ _ _ hP hD hS (lv_sub hl [1, 2, 3, 0] rfl)
          · skip
            replace h := (if_pos c_7).symm.trans h
            refine lv_bipush (v := 15) hx hb dX12_part_80 (by decide) ?_
            refine lv_goto (tgt := 87) hx hb dX12_part_82 (by decide) ?_
            exact B_87 cs1 u1 u2 v_3 15 h _ _ _ hP hD hS (lv_sub hl [1, 2, 3, 0] rfl)
        · skip
          replace h := (if_pos c_5).symm.trans h
          refine lv_bipush (v := 14) hx hb dX12_part_61 (by decide) ?_
          refine lv_goto (tgt := 87) hx hb dX12_part_63 (by decide) ?_
          exact B_87 cs1 u1 u2 v_3 14 h _ _ _ hP hD hS (lv_sub hl [1, 2, 3, 0] rfl)
      intro cs1 u1 u2 h H locs ls hP hD hS hl
      rw [m_part_L10] at h
      refine lv_aload_n hx hb dX12_part_10 rfl (lv_at hl 0 rfl) ?_
      refine lv_bipush (v := 42) hx hb dX12_part_11 (by decide) ?_
      obtain ⟨v_8, hv_8, h⟩ := ob h
      refine calI (As := [.int 42]) hx hb hml hts hown hK hP hD hS hA hZ (s_isSign l dC dI cB cI cJ cZ h0 a K V fz F cs1 42 v_8 hv_8) (cw_isSign hts (fr := 0) (by show 0 + 1 ≤ n + 1 + 10; omega) (by show 8 + (2 + 11) + 60 * (0) ≤ 60 * (n + 1 + 10); omega)) rfl hl.1 (Nat.le_of_ble_eq_true rfl) ⟨Nat.zero_le _, Nat.zero_le _⟩ dX12_part_13 (fun H locs hP hD hS => ?_)
      refine lv_if_ne (tgt := 37) hx hb dX12_part_16 (by decide) (fun c_9 => ?_) (fun c_9 => ?_)
      · skip
        replace h := (if_neg c_9).symm.trans h
        exact B_37 cs1 u1 u2 h _ _ _ hP hD hS (lv_sub hl [0, 1, 2] rfl)
      · skip
        replace h := (if_pos c_9).symm.trans h
        refine lv_aload_n hx hb dX12_part_19 rfl (lv_at hl 0 rfl) ?_
        refine lv_bipush (v := 47) hx hb dX12_part_20 (by decide) ?_
        obtain ⟨v_10, hv_10, h⟩ := ob h
        refine calI (As := [.int 47]) hx hb hml hts hown hK hP hD hS hA hZ (s_isSign l dC dI cB cI cJ cZ h0 a K V fz F cs1 47 v_10 hv_10) (cw_isSign hts (fr := 0) (by show 0 + 1 ≤ n + 1 + 10; omega) (by show 8 + (2 + 11) + 60 * (0) ≤ 60 * (n + 1 + 10); omega)) rfl hl.1 (Nat.le_of_ble_eq_true rfl) ⟨Nat.zero_le _, Nat.zero_le _⟩ dX12_part_22 (fun H locs hP hD hS => ?_)
        refine lv_if_ne (tgt := 37) hx hb dX12_part_25 (by decide) (fun c_11 => ?_) (fun c_11 => ?_)
        · skip
          replace h := (if_neg c_11).symm.trans h
          exact B_37 cs1 u1 u2 h _ _ _ hP hD hS (lv_sub hl [0, 1, 2] rfl)
        · skip
          replace h := (if_pos c_11).symm.trans h
          refine lv_aload_n hx hb dX12_part_28 rfl (lv_at hl 0 rfl) ?_
          refine lv_bipush (v := 37) hx hb dX12_part_29 (by decide) ?_
          obtain ⟨v_12, hv_12, h⟩ := ob h
          refine calI (As := [.int 37]) hx hb hml hts hown hK hP hD hS hA hZ (s_isSign l dC dI cB cI cJ cZ h0 a K V fz F cs1 37 v_12 hv_12) (cw_isSign hts (fr := 0) (by show 0 + 1 ≤ n + 1 + 10; omega) (by show 8 + (2 + 11) + 60 * (0) ≤ 60 * (n + 1 + 10); omega)) rfl hl.1 (Nat.le_of_ble_eq_true rfl) ⟨Nat.zero_le _, Nat.zero_le _⟩ dX12_part_31 (fun H locs hP hD hS => ?_)
          refine lv_if_eq (tgt := 121) hx hb dX12_part_34 (by decide) (fun c_13 => ?_) (fun c_13 => ?_)
          · skip
            replace h := (if_pos c_13).symm.trans h
            refine lv_aload_n hx hb dX12_part_121 rfl (lv_at hl 0 rfl) ?_
            refine lv_iload_n hx hb dX12_part_122 rfl (lv_at hl 2 rfl) ?_
            refine fp_74 hx hb hts hown hK hP hD hS dX12_part_123 (fun H locs hP hD hS => ?_)
            refine lv_iload_n hx hb dX12_part_126 rfl (lv_at hl 1 rfl) ?_
            obtain ⟨e1, e2⟩ := Prod.mk.inj (Option.some.inj h)
            rw [e1] at hP hD
            exact W.iret (v := u1) hx hb hr (fun t_ ht hW => ⟨⟨u1, (), rfl, e2, by rw [ht]; exact hP, hD⟩, hS.F ht⟩) hS.2.2 dX12_part_127
          · skip
            replace h := (if_neg c_13).symm.trans h
            exact B_37 cs1 u1 u2 h _ _ _ hP hD hS (lv_sub hl [0, 1, 2] rfl)
  have h := hf
  unfold b_part at h
  refine lv_aload_n hx hb dX12_part_0 rfl (lv_at hl 0 rfl) ?_
  obtain ⟨z_14, hv_14, h⟩ := ob h
  refine calI (As := []) hx hb hml hts hown hK hP hD hS hA hZ (hT_sign cs  z_14.1 z_14.2 hv_14) (cw_sign hts (fr := n + 10) (by show n + 10 + 1 ≤ n + 1 + 10; omega) (by show 8 + (3 + 11) + 60 * (n + 10) ≤ 60 * (n + 1 + 10); omega)) rfl hl.1 (Nat.le_of_ble_eq_true rfl) ⟨Nat.zero_le _, Nat.zero_le _⟩ dX12_part_1 (fun H locs hP hD hS => ?_)
  refine lv_istore_n (lv' := [(1, .int z_14.2), (0, .ref h0)]) hx hb dX12_part_4 rfl hl (by decide) rfl (fun ls hl => ?_)
  refine lv_aload_n hx hb dX12_part_5 rfl (lv_at hl 1 rfl) ?_
  refine fg_74 hx hb hts hown hK hP dX12_part_6 ?_
  refine lv_istore_n (lv' := [(2, .int (z_14.1.1 74)), (1, .int z_14.2), (0, .ref h0)]) hx hb dX12_part_9 rfl hl (by decide) rfl (fun ls hl => ?_)
  exact L_10 F z_14.1 z_14.2 (z_14.1.1 74) h _ _ _ hP hD hS (lv_sub hl [2, 1, 0] rfl)
set_option maxHeartbeats 4000000 in
set_option maxRecDepth 100000 in
theorem sb_sign (l : Launch) (dC : Nat → ClassId) (dI : Nat → Nat → Nat) (cB cI cJ cZ : ClassId) (h0 : Nat) (a : Nat → Nat) (K V : Nat → Nat) (fz : Value) (F : Nat) (n : Nat) (T : TG_expr) (hT_expr : ∀ (cs : RS) (cs9 : RS) (r9 : Int32), T.1 cs = some (cs9, r9) → okI l dC dI cB cI cJ cZ h0 a K V fz yX12_expr (wsOf yX12_expr cX12_expr 5 (some .int)) (n + 10) [.ref h0] cs cs9 r9) (hT_andExpr : ∀ (cs : RS) (cs9 : RS) (r9 : Int32), T.2.1 cs = some (cs9, r9) → okI l dC dI cB cI cJ cZ h0 a K V fz yX12_andExpr (wsOf yX12_andExpr cX12_andExpr 5 (some .int)) (n + 10) [.ref h0] cs cs9 r9) (hT_notExpr : ∀ (cs : RS) (cs9 : RS) (r9 : Int32), T.2.2.1 cs = some (cs9, r9) → okI l dC dI cB cI cJ cZ h0 a K V fz yX12_notExpr (wsOf yX12_notExpr cX12_notExpr 3 (some .int)) (n + 10) [.ref h0] cs cs9 r9) (hT_test : ∀ (cs : RS) (cs9 : RS) (r9 : Int32), T.2.2.2.1 cs = some (cs9, r9) → okI l dC dI cB cI cJ cZ h0 a K V fz yX12_test (wsOf yX12_test cX12_test 11 (some .int)) (n + 10) [.ref h0] cs cs9 r9) (hT_sum : ∀ (cs : RS) (cs9 : RS) (r9 : Int32), T.2.2.2.2.1 cs = some (cs9, r9) → okI l dC dI cB cI cJ cZ h0 a K V fz yX12_sum (wsOf yX12_sum cX12_sum 6 (some .int)) (n + 10) [.ref h0] cs cs9 r9) (hT_part : ∀ (cs : RS) (cs9 : RS) (r9 : Int32), T.2.2.2.2.2.1 cs = some (cs9, r9) → okI l dC dI cB cI cJ cZ h0 a K V fz yX12_part (wsOf yX12_part cX12_part 6 (some .int)) (n + 10) [.ref h0] cs cs9 r9) (hT_sign : ∀ (cs : RS) (cs9 : RS) (r9 : Int32), T.2.2.2.2.2.2.1 cs = some (cs9, r9) → okI l dC dI cB cI cJ cZ h0 a K V fz yX12_sign (wsOf yX12_sign cX12_sign 3 (some .int)) (n + 10) [.ref h0] cs cs9 r9) (hT_one : ∀ (cs : RS) (cs9 : RS) (r9 : Int32), T.2.2.2.2.2.2.2.1 cs = some (cs9, r9) → okI l dC dI cB cI cJ cZ h0 a K V fz yX12_one (wsOf yX12_one cX12_one 6 (some .int)) (n + 10) [.ref h0] cs cs9 r9) (hT_aggregate : ∀ (cs : RS) (x1 : Int32) (cs9 : RS) (r9 : Int32), T.2.2.2.2.2.2.2.2 cs x1 = some (cs9, r9) → okI l dC dI cB cI cJ cZ h0 a K V fz yX12_aggregate (wsOf yX12_aggregate cX12_aggregate 4 (some .int)) (n + 10) [.ref h0, .int x1] cs cs9 r9) (cs : RS) (cs9 : RS) (r9 : Int32) (hf : b_sign F T cs = some (cs9, r9)) : okI l dC dI cB cI cJ cZ h0 a K V fz yX12_sign (wsOf yX12_sign cX12_sign 3 (some .int)) (n + 1 + 10) [.ref h0] cs cs9 r9 := by
  intro sz
  refine Met.ofW (cc := cX12_sign) (maxL := 3) (ret := (some .int)) (by decide) rfl ?_
  intro p e s m args below meth c s₁ B hml hv
  obtain ⟨rfl, hsz, hP, hK, hD0, hZ⟩ := hv
  have hx := B.exec
  have hb := B.bytes
  have hr := B.returns
  have hts := atoms_spec (ws := (wsOf yX12_sign cX12_sign 3 (some .int))) B.pre
  have hown : s.vm.findClass RX12 = some m.cls := findClass_of_methodNamed B.named
  have hlocks := B.notSynchronized
  subst hsz
  have hD := hD0.self (sz := s.heap.size)
  generalize hAe : va_A (mW cB cI cJ cZ h0 a cs) s.heap.size = A at hD hZ ⊢
  have hA : ∀ q : Nat, s.heap.size ≤ q → A q := fun q h => by rw [← hAe]; exact Or.inr h
  have hS : va_S A s.heap s.heap [] := va_S.rf
  have hl := lv_entry ([.ref h0]) (n := 3) (Nat.le_of_ble_eq_true rfl)
  rw [lg_entry_eq]
  generalize (lg_sl ([.ref h0]) ++ List.replicate (3 - (lg_sl ([.ref h0])).length) Slot.unset).toArray = ls at hl ⊢
  have hl : lv_has ls 3 [(0, .ref h0)] := hl
  have B_54 : ∀ (cs1 : RS) (u1 : Int32) (y0 : Int32), m_sign_b54 F T cs1 u1 y0 = some (cs9, r9) → ∀ (H : Heap) (locs : List Loc) (ls : Array Slot), va_P (dC, dI) vwCl (mW cB cI cJ cZ h0 a cs1) H → va_D A (mW cB cI cJ cZ h0 a cs1) → va_S A s.heap H locs → lv_has ls 3 [(0, .ref h0), (1, .int u1)] → W p l e (headSpec (wsOf yX12_sign cX12_sign 3 (some .int)) ({ frames := n + 1 + 10, cells := 0, slots := 0, locals := 60 * (n + 1 + 10) } : Room)).room s m ([.ref h0] : List Value).toArray below meth c H locs 0 0 (MQ below (va_Qi (fun (x : Int32) (_ : Unit) => x = r9) (fun _ t_ => va_P (dC, dI) vwCl (mW cB cI cJ cZ h0 a cs9) t_.heap ∧ va_D A (mW cB cI cJ cZ h0 a cs9)) A) ([.ref h0] : List Value).toArray s 0 0 A) (F0 m 54 ls [.int y0]) := by
    intro cs1 u1 y0 h H locs ls hP hD hS hl
    unfold m_sign_b54 at h
    refine lv_istore_n (lv' := [(2, .int y0), (0, .ref h0), (1, .int u1)]) hx hb dX12_sign_54 rfl hl (by decide) rfl (fun ls hl => ?_)
    refine lv_aload_n hx hb dX12_sign_55 rfl (lv_at hl 1 rfl) ?_
    refine lv_dup hx hb dX12_sign_56 rfl ?_
    refine fg_70 hx hb hts hown hK hP dX12_sign_57 ?_
    refine lv_iconst (v := 1) hx hb dX12_sign_60 (by decide) ?_
    refine lv_isub hx hb dX12_sign_61 ?_
    refine fp_70 hx hb hts hown hK hP hD hS dX12_sign_62 (fun H locs hP hD hS => ?_)
    refine lv_aload_n hx hb dX12_sign_65 rfl (lv_at hl 1 rfl) ?_
    refine lv_bipush (v := 17) hx hb dX12_sign_66 (by decide) ?_
    refine lv_iload_n hx hb dX12_sign_68 rfl (lv_at hl 0 rfl) ?_
    refine lv_iconst (v := (-1)) hx hb dX12_sign_69 (by decide) ?_
    refine lv_iconst (v := (-1)) hx hb dX12_sign_70 (by decide) ?_
    refine lv_iload_n hx hb dX12_sign_71 rfl (lv_at hl 2 rfl) ?_
    refine lv_iload_n hx hb dX12_sign_72 rfl (lv_at hl 2 rfl) ?_
    obtain ⟨z_1, hv_1, h⟩ := ob h
    refine calI (As := [.int 17, .int y0, .int (-1), .int (-1), .int u1, .int u1]) hx hb hml hts hown hK hP hD hS hA hZ (s_make l dC dI cB cI cJ cZ h0 a K V fz F (setF cs1 70 ((cs1.1 70) - 1)) 17 y0 (-1) (-1) u1 u1 z_1.1 z_1.2 hv_1) (cw_make hts (fr := 1) (by show 1 + 1 ≤ n + 1 + 10; omega) (by show 8 + (8 + 11) + 60 * (1) ≤ 60 * (n + 1 + 10); omega)) rfl hl.1 (Nat.le_of_ble_eq_true rfl) ⟨Nat.zero_le _, Nat.zero_le _⟩ dX12_sign_73 (fun H locs hP hD hS => ?_)
    refine lv_istore_n (lv' := [(2, .int z_1.2), (0, .ref h0), (1, .int u1)]) hx hb dX12_sign_76 rfl hl (by decide) rfl (fun ls hl => ?_)
    refine lv_aload_n hx hb dX12_sign_77 rfl (lv_at hl 1 rfl) ?_
    refine lv_iload_n hx hb dX12_sign_78 rfl (lv_at hl 2 rfl) ?_
    refine fp_74 hx hb hts hown hK hP hD hS dX12_sign_79 (fun H locs hP hD hS => ?_)
    refine lv_iload_n hx hb dX12_sign_82 rfl (lv_at hl 0 rfl) ?_
    obtain ⟨e1, e2⟩ := Prod.mk.inj (Option.some.inj h)
    rw [e1] at hP hD
    exact W.iret (v := z_1.2) hx hb hr (fun t_ ht hW => ⟨⟨z_1.2, (), rfl, e2, by rw [ht]; exact hP, hD⟩, hS.F ht⟩) hS.2.2 dX12_sign_83
  have h := hf
  unfold b_sign at h
  refine lv_aload_n hx hb dX12_sign_0 rfl (lv_at hl 0 rfl) ?_
  refine lv_bipush (v := 45) hx hb dX12_sign_1 (by decide) ?_
  obtain ⟨v_2, hv_2, h⟩ := ob h
  refine calI (As := [.int 45]) hx hb hml hts hown hK hP hD hS hA hZ (s_isSign l dC dI cB cI cJ cZ h0 a K V fz F cs 45 v_2 hv_2) (cw_isSign hts (fr := 0) (by show 0 + 1 ≤ n + 1 + 10; omega) (by show 8 + (2 + 11) + 60 * (0) ≤ 60 * (n + 1 + 10); omega)) rfl hl.1 (Nat.le_of_ble_eq_true rfl) ⟨Nat.zero_le _, Nat.zero_le _⟩ dX12_sign_3 (fun H locs hP hD hS => ?_)
  refine lv_if_ne (tgt := 14) hx hb dX12_sign_6 (by decide) (fun c_3 => ?_) (fun c_3 => ?_)
  · skip
    replace h := (if_neg c_3).symm.trans h
    refine lv_aload_n hx hb dX12_sign_14 rfl (lv_at hl 0 rfl) ?_
    refine fg_15 hx hb hts hown hK hP dX12_sign_15 ?_
    refine lv_aload_n hx hb dX12_sign_18 rfl (lv_at hl 0 rfl) ?_
    refine fg_18 hx hb hts hown hK hP dX12_sign_19 ?_
    obtain ⟨v_4, hv_4, h⟩ := ob h
    refine ag_15 hx hb hK hP hv_4 dX12_sign_22 ?_
    refine lv_istore_n (lv' := [(1, .int v_4), (0, .ref h0)]) hx hb dX12_sign_23 rfl hl (by decide) rfl (fun ls hl => ?_)
    refine lv_aload_n hx hb dX12_sign_24 rfl (lv_at hl 1 rfl) ?_
    refine lv_iload_n hx hb dX12_sign_25 rfl (lv_at hl 0 rfl) ?_
    obtain ⟨cs_5, hv_5, h⟩ := ob h
    refine calV (As := [.int v_4]) hx hb hml hts hown hK hP hD hS hA hZ (s_deeper l dC dI cB cI cJ cZ h0 a K V fz F cs v_4 cs_5 hv_5) (cw_deeper hts (fr := 1) (by show 1 + 1 ≤ n + 1 + 10; omega) (by show 8 + (2 + 11) + 60 * (1) ≤ 60 * (n + 1 + 10); omega)) rfl hl.1 (Nat.le_of_ble_eq_true rfl) ⟨Nat.zero_le _, Nat.zero_le _⟩ dX12_sign_26 (fun H locs hP hD hS => ?_)
    refine lv_aload_n hx hb dX12_sign_29 rfl (lv_at hl 1 rfl) ?_
    refine lv_dup hx hb dX12_sign_30 rfl ?_
    refine fg_18 hx hb hts hown hK hP dX12_sign_31 ?_
    refine lv_iconst (v := 1) hx hb dX12_sign_34 (by decide) ?_
    refine lv_iadd hx hb dX12_sign_35 ?_
    refine fp_18 hx hb hts hown hK hP hD hS dX12_sign_36 (fun H locs hP hD hS => ?_)
    refine lv_aload_n hx hb dX12_sign_39 rfl (lv_at hl 1 rfl) ?_
    refine fg_21 hx hb hts hown hK hP dX12_sign_40 ?_
    refine lv_if_eq (tgt := 53) hx hb dX12_sign_43 (by decide) (fun c_6 => ?_) (fun c_6 => ?_)
    · skip
      replace h := (if_pos c_6).symm.trans h
      refine lv_iconst (v := 0) hx hb dX12_sign_53 (by decide) ?_
      exact B_54 (setF cs_5 18 ((cs_5.1 18) + 1)) v_4 0 h _ _ _ hP hD hS (lv_sub hl [1, 0] rfl)
    · skip
      replace h := (if_neg c_6).symm.trans h
      refine lv_aload_n hx hb dX12_sign_46 rfl (lv_at hl 1 rfl) ?_
      obtain ⟨z_7, hv_7, h⟩ := ob h
      refine calI (As := []) hx hb hml hts hown hK hP hD hS hA hZ (hT_sign (setF cs_5 18 ((cs_5.1 18) + 1))  z_7.1 z_7.2 hv_7) (cw_sign hts (fr := n + 10) (by show n + 10 + 1 ≤ n + 1 + 10; omega) (by show 8 + (3 + 11) + 60 * (n + 10) ≤ 60 * (n + 1 + 10); omega)) rfl hl.1 (Nat.le_of_ble_eq_true rfl) ⟨Nat.zero_le _, Nat.zero_le _⟩ dX12_sign_47 (fun H locs hP hD hS => ?_)
      refine lv_goto (tgt := 54) hx hb dX12_sign_50 (by decide) ?_
      exact B_54 z_7.1 v_4 z_7.2 h _ _ _ hP hD hS (lv_sub hl [1, 0] rfl)
  · skip
    replace h := (if_pos c_3).symm.trans h
    refine lv_aload_n hx hb dX12_sign_9 rfl (lv_at hl 0 rfl) ?_
    obtain ⟨z_8, hv_8, h⟩ := ob h
    refine calI (As := []) hx hb hml hts hown hK hP hD hS hA hZ (hT_one cs  z_8.1 z_8.2 hv_8) (cw_one hts (fr := n + 10) (by show n + 10 + 1 ≤ n + 1 + 10; omega) (by show 8 + (6 + 11) + 60 * (n + 10) ≤ 60 * (n + 1 + 10); omega)) rfl hl.1 (Nat.le_of_ble_eq_true rfl) ⟨Nat.zero_le _, Nat.zero_le _⟩ dX12_sign_10 (fun H locs hP hD hS => ?_)
    obtain ⟨e1, e2⟩ := Prod.mk.inj (Option.some.inj h)
    rw [e1] at hP hD
    exact W.iret (v := z_8.2) hx hb hr (fun t_ ht hW => ⟨⟨z_8.2, (), rfl, e2, by rw [ht]; exact hP, hD⟩, hS.F ht⟩) hS.2.2 dX12_sign_13
set_option maxHeartbeats 4000000 in
set_option maxRecDepth 100000 in
theorem sb_one (l : Launch) (dC : Nat → ClassId) (dI : Nat → Nat → Nat) (cB cI cJ cZ : ClassId) (h0 : Nat) (a : Nat → Nat) (K V : Nat → Nat) (fz : Value) (F : Nat) (n : Nat) (T : TG_expr) (hT_expr : ∀ (cs : RS) (cs9 : RS) (r9 : Int32), T.1 cs = some (cs9, r9) → okI l dC dI cB cI cJ cZ h0 a K V fz yX12_expr (wsOf yX12_expr cX12_expr 5 (some .int)) (n + 10) [.ref h0] cs cs9 r9) (hT_andExpr : ∀ (cs : RS) (cs9 : RS) (r9 : Int32), T.2.1 cs = some (cs9, r9) → okI l dC dI cB cI cJ cZ h0 a K V fz yX12_andExpr (wsOf yX12_andExpr cX12_andExpr 5 (some .int)) (n + 10) [.ref h0] cs cs9 r9) (hT_notExpr : ∀ (cs : RS) (cs9 : RS) (r9 : Int32), T.2.2.1 cs = some (cs9, r9) → okI l dC dI cB cI cJ cZ h0 a K V fz yX12_notExpr (wsOf yX12_notExpr cX12_notExpr 3 (some .int)) (n + 10) [.ref h0] cs cs9 r9) (hT_test : ∀ (cs : RS) (cs9 : RS) (r9 : Int32), T.2.2.2.1 cs = some (cs9, r9) → okI l dC dI cB cI cJ cZ h0 a K V fz yX12_test (wsOf yX12_test cX12_test 11 (some .int)) (n + 10) [.ref h0] cs cs9 r9) (hT_sum : ∀ (cs : RS) (cs9 : RS) (r9 : Int32), T.2.2.2.2.1 cs = some (cs9, r9) → okI l dC dI cB cI cJ cZ h0 a K V fz yX12_sum (wsOf yX12_sum cX12_sum 6 (some .int)) (n + 10) [.ref h0] cs cs9 r9) (hT_part : ∀ (cs : RS) (cs9 : RS) (r9 : Int32), T.2.2.2.2.2.1 cs = some (cs9, r9) → okI l dC dI cB cI cJ cZ h0 a K V fz yX12_part (wsOf yX12_part cX12_part 6 (some .int)) (n + 10) [.ref h0] cs cs9 r9) (hT_sign : ∀ (cs : RS) (cs9 : RS) (r9 : Int32), T.2.2.2.2.2.2.1 cs = some (cs9, r9) → okI l dC dI cB cI cJ cZ h0 a K V fz yX12_sign (wsOf yX12_sign cX12_sign 3 (some .int)) (n + 10) [.ref h0] cs cs9 r9) (hT_one : ∀ (cs : RS) (cs9 : RS) (r9 : Int32), T.2.2.2.2.2.2.2.1 cs = some (cs9, r9) → okI l dC dI cB cI cJ cZ h0 a K V fz yX12_one (wsOf yX12_one cX12_one 6 (some .int)) (n + 10) [.ref h0] cs cs9 r9) (hT_aggregate : ∀ (cs : RS) (x1 : Int32) (cs9 : RS) (r9 : Int32), T.2.2.2.2.2.2.2.2 cs x1 = some (cs9, r9) → okI l dC dI cB cI cJ cZ h0 a K V fz yX12_aggregate (wsOf yX12_aggregate cX12_aggregate 4 (some .int)) (n + 10) [.ref h0, .int x1] cs cs9 r9) (cs : RS) (cs9 : RS) (r9 : Int32) (hf : b_one F T cs = some (cs9, r9)) : okI l dC dI cB cI cJ cZ h0 a K V fz yX12_one (wsOf yX12_one cX12_one 6 (some .int)) (n + 1 + 10) [.ref h0] cs cs9 r9 := by
  intro sz
  refine Met.ofW (cc := cX12_one) (maxL := 6) (ret := (some .int)) (by decide) rfl ?_
  intro p e s m args below meth c s₁ B hml hv
  obtain ⟨rfl, hsz, hP, hK, hD0, hZ⟩ := hv
  have hx := B.exec
  have hb := B.bytes
  have hr := B.returns
  have hts := atoms_spec (ws := (wsOf yX12_one cX12_one 6 (some .int))) B.pre
  have hown : s.vm.findClass RX12 = some m.cls := findClass_of_methodNamed B.named
  have hlocks := B.notSynchronized
  subst hsz
  have hD := hD0.self (sz := s.heap.size)
  generalize hAe : va_A (mW cB cI cJ cZ h0 a cs) s.heap.size = A at hD hZ ⊢
  have hA : ∀ q : Nat, s.heap.size ≤ q → A q := fun q h => by rw [← hAe]; exact Or.inr h
  have hS : va_S A s.heap s.heap [] := va_S.rf
  have hl := lv_entry ([.ref h0]) (n := 6) (Nat.le_of_ble_eq_true rfl)
  rw [lg_entry_eq]
  generalize (lg_sl ([.ref h0]) ++ List.replicate (6 - (lg_sl ([.ref h0])).length) Slot.unset).toArray = ls at hl ⊢
  have hl : lv_has ls 6 [(0, .ref h0)] := hl
  have B_493 : ∀ (cs1 : RS) (u1 : Int32) (u2 : Int32), m_one_b493 F T cs1 u1 u2 = some (cs9, r9) → ∀ (H : Heap) (locs : List Loc) (ls : Array Slot), va_P (dC, dI) vwCl (mW cB cI cJ cZ h0 a cs1) H → va_D A (mW cB cI cJ cZ h0 a cs1) → va_S A s.heap H locs → lv_has ls 6 [(0, .ref h0), (1, .int u1), (2, .int u2)] → W p l e (headSpec (wsOf yX12_one cX12_one 6 (some .int)) ({ frames := n + 1 + 10, cells := 0, slots := 0, locals := 60 * (n + 1 + 10) } : Room)).room s m ([.ref h0] : List Value).toArray below meth c H locs 0 0 (MQ below (va_Qi (fun (x : Int32) (_ : Unit) => x = r9) (fun _ t_ => va_P (dC, dI) vwCl (mW cB cI cJ cZ h0 a cs9) t_.heap ∧ va_D A (mW cB cI cJ cZ h0 a cs9)) A) ([.ref h0] : List Value).toArray s 0 0 A) (F0 m 493 ls []) := by
    intro cs1 u1 u2 h H locs ls hP hD hS hl
    unfold m_one_b493 at h
    refine lv_aload_n hx hb dX12_one_493 rfl (lv_at hl 0 rfl) ?_
    refine lv_iload_n hx hb dX12_one_494 rfl (lv_at hl 1 rfl) ?_
    refine fp_74 hx hb hts hown hK hP hD hS dX12_one_495 (fun H locs hP hD hS => ?_)
    refine lv_iload_n hx hb dX12_one_498 rfl (lv_at hl 2 rfl) ?_
    obtain ⟨e1, e2⟩ := Prod.mk.inj (Option.some.inj h)
    rw [e1] at hP hD
    exact W.iret (v := u2) hx hb hr (fun t_ ht hW => ⟨⟨u2, (), rfl, e2, by rw [ht]; exact hP, hD⟩, hS.F ht⟩) hS.2.2 dX12_one_499
  have B_186 : ∀ (cs1 : RS) (u1 : Int32) (y0 : Int32), m_one_b186 F T cs1 u1 y0 = some (cs9, r9) → ∀ (H : Heap) (locs : List Loc) (ls : Array Slot), va_P (dC, dI) vwCl (mW cB cI cJ cZ h0 a cs1) H → va_D A (mW cB cI cJ cZ h0 a cs1) → va_S A s.heap H locs → lv_has ls 6 [(0, .ref h0), (1, .int u1)] → W p l e (headSpec (wsOf yX12_one cX12_one 6 (some .int)) ({ frames := n + 1 + 10, cells := 0, slots := 0, locals := 60 * (n + 1 + 10) } : Room)).room s m ([.ref h0] : List Value).toArray below meth c H locs 0 0 (MQ below (va_Qi (fun (x : Int32) (_ : Unit) => x = r9) (fun _ t_ => va_P (dC, dI) vwCl (mW cB cI cJ cZ h0 a cs9) t_.heap ∧ va_D A (mW cB cI cJ cZ h0 a cs9)) A) ([.ref h0] : List Value).toArray s 0 0 A) (F0 m 186 ls [.int y0]) := by
    intro cs1 u1 y0 h H locs ls hP hD hS hl
    unfold m_one_b186 at h
    refine lv_istore_n (lv' := [(2, .int y0), (0, .ref h0), (1, .int u1)]) hx hb dX12_one_186 rfl hl (by decide) rfl (fun ls hl => ?_)
    refine lv_aload_n hx hb dX12_one_187 rfl (lv_at hl 1 rfl) ?_
    refine lv_dup hx hb dX12_one_188 rfl ?_
    refine fg_70 hx hb hts hown hK hP dX12_one_189 ?_
    refine lv_iconst (v := 1) hx hb dX12_one_192 (by decide) ?_
    refine lv_isub hx hb dX12_one_193 ?_
    refine fp_70 hx hb hts hown hK hP hD hS dX12_one_194 (fun H locs hP hD hS => ?_)
    refine lv_aload_n hx hb dX12_one_197 rfl (lv_at hl 1 rfl) ?_
    refine lv_bipush (v := 41) hx hb dX12_one_198 (by decide) ?_
    obtain ⟨cs_1, hv_1, h⟩ := ob h
    refine calV (As := [.int 41]) hx hb hml hts hown hK hP hD hS hA hZ (s_needSign l dC dI cB cI cJ cZ h0 a K V fz F (setF cs1 70 ((cs1.1 70) - 1)) 41 cs_1 hv_1) (cw_needSign hts (fr := 2) (by show 2 + 1 ≤ n + 1 + 10; omega) (by show 8 + (2 + 11) + 60 * (2) ≤ 60 * (n + 1 + 10); omega)) rfl hl.1 (Nat.le_of_ble_eq_true rfl) ⟨Nat.zero_le _, Nat.zero_le _⟩ dX12_one_200 (fun H locs hP hD hS => ?_)
    refine lv_goto (tgt := 493) hx hb dX12_one_203 (by decide) ?_
    exact B_493 cs_1 u1 y0 h _ _ _ hP hD hS (lv_sub hl [1, 2, 0] rfl)
  have B_300 : ∀ (cs1 : RS) (u1 : Int32) (u3 : Int32) (u4 : Int32) (y0 : Int32), m_one_b300 F T cs1 u1 u3 u4 y0 = some (cs9, r9) → ∀ (H : Heap) (locs : List Loc) (ls : Array Slot), va_P (dC, dI) vwCl (mW cB cI cJ cZ h0 a cs1) H → va_D A (mW cB cI cJ cZ h0 a cs1) → va_S A s.heap H locs → lv_has ls 6 [(0, .ref h0), (1, .int u1), (3, .int u3), (4, .int u4)] → W p l e (headSpec (wsOf yX12_one cX12_one 6 (some .int)) ({ frames := n + 1 + 10, cells := 0, slots := 0, locals := 60 * (n + 1 + 10) } : Room)).room s m ([.ref h0] : List Value).toArray below meth c H locs 0 0 (MQ below (va_Qi (fun (x : Int32) (_ : Unit) => x = r9) (fun _ t_ => va_P (dC, dI) vwCl (mW cB cI cJ cZ h0 a cs9) t_.heap ∧ va_D A (mW cB cI cJ cZ h0 a cs9)) A) ([.ref h0] : List Value).toArray s 0 0 A) (F0 m 300 ls [.int y0]) := by
    intro cs1 u1 u3 u4 y0 h H locs ls hP hD hS hl
    unfold m_one_b300 at h
    refine lv_istore (lv' := [(5, .int y0), (0, .ref h0), (1, .int u1), (3, .int u3), (4, .int u4)]) hx hb dX12_one_300 hl (by decide) rfl (fun ls hl => ?_)
    refine lv_aload_n hx hb dX12_one_302 rfl (lv_at hl 1 rfl) ?_
    refine va_ldcSW (own := RX12) (index := 438) (tx := soT 20) (q := K 20) hx hb hown (hZ.ref 20 (by decide)) dX12_one_303 ?_
    obtain ⟨cs_2, hv_2, h⟩ := ob h
    refine calV (As := [.ref (K 20)]) hx hb hml hts hown hK hP hD hS hA hZ (s_needWord l dC dI cB cI cJ cZ h0 a K V fz F cs1 20 (by decide) cs_2 hv_2) (cw_needWord hts (fr := 9) (by show 9 + 1 ≤ n + 1 + 10; omega) (by show 8 + (2 + 11) + 60 * (9) ≤ 60 * (n + 1 + 10); omega)) rfl hl.1 (Nat.le_of_ble_eq_true rfl) ⟨Nat.zero_le _, Nat.zero_le _⟩ dX12_one_306 (fun H locs hP hD hS => ?_)
    refine lv_aload_n hx hb dX12_one_309 rfl (lv_at hl 1 rfl) ?_
    refine lv_dup hx hb dX12_one_310 rfl ?_
    refine fg_70 hx hb hts hown hK hP dX12_one_311 ?_
    refine lv_iconst (v := 1) hx hb dX12_one_314 (by decide) ?_
    refine lv_isub hx hb dX12_one_315 ?_
    refine fp_70 hx hb hts hown hK hP hD hS dX12_one_316 (fun H locs hP hD hS => ?_)
    refine lv_aload_n hx hb dX12_one_319 rfl (lv_at hl 1 rfl) ?_
    refine lv_bipush (v := 18) hx hb dX12_one_320 (by decide) ?_
    refine lv_iload_n hx hb dX12_one_322 rfl (lv_at hl 3 rfl) ?_
    refine lv_iload hx hb dX12_one_323 (lv_at hl 4 rfl) ?_
    refine lv_iload hx hb dX12_one_325 (lv_at hl 0 rfl) ?_
    refine lv_iload_n hx hb dX12_one_327 rfl (lv_at hl 2 rfl) ?_
    refine lv_iload_n hx hb dX12_one_328 rfl (lv_at hl 2 rfl) ?_
    obtain ⟨z_3, hv_3, h⟩ := ob h
    refine calI (As := [.int 18, .int u3, .int u4, .int y0, .int u1, .int u1]) hx hb hml hts hown hK hP hD hS hA hZ (s_make l dC dI cB cI cJ cZ h0 a K V fz F (setF cs_2 70 ((cs_2.1 70) - 1)) 18 u3 u4 y0 u1 u1 z_3.1 z_3.2 hv_3) (cw_make hts (fr := 1) (by show 1 + 1 ≤ n + 1 + 10; omega) (by show 8 + (8 + 11) + 60 * (1) ≤ 60 * (n + 1 + 10); omega)) rfl hl.1 (Nat.le_of_ble_eq_true rfl) ⟨Nat.zero_le _, Nat.zero_le _⟩ dX12_one_329 (fun H locs hP hD hS => ?_)
    refine lv_istore_n (lv' := [(2, .int z_3.2), (5, .int y0), (0, .ref h0), (1, .int u1), (3, .int u3), (4, .int u4)]) hx hb dX12_one_332 rfl hl (by decide) rfl (fun ls hl => ?_)
    refine lv_goto (tgt := 493) hx hb dX12_one_333 (by decide) ?_
    exact B_493 z_3.1 u1 z_3.2 h _ _ _ hP hD hS (lv_sub hl [2, 3, 0] rfl)
  have B_276 : ∀ (cs1 : RS) (u1 : Int32) (u3 : Int32) (y0 : Int32), m_one_b276 F T cs1 u1 u3 y0 = some (cs9, r9) → ∀ (H : Heap) (locs : List Loc) (ls : Array Slot), va_P (dC, dI) vwCl (mW cB cI cJ cZ h0 a cs1) H → va_D A (mW cB cI cJ cZ h0 a cs1) → va_S A s.heap H locs → lv_has ls 6 [(0, .ref h0), (1, .int u1), (3, .int u3)] → W p l e (headSpec (wsOf yX12_one cX12_one 6 (some .int)) ({ frames := n + 1 + 10, cells := 0, slots := 0, locals := 60 * (n + 1 + 10) } : Room)).room s m ([.ref h0] : List Value).toArray below meth c H locs 0 0 (MQ below (va_Qi (fun (x : Int32) (_ : Unit) => x = r9) (fun _ t_ => va_P (dC, dI) vwCl (mW cB cI cJ cZ h0 a cs9) t_.heap ∧ va_D A (mW cB cI cJ cZ h0 a cs9)) A) ([.ref h0] : List Value).toArray s 0 0 A) (F0 m 276 ls [.int y0]) := by
    intro cs1 u1 u3 y0 h H locs ls hP hD hS hl
    unfold m_one_b276 at h
    refine lv_istore (lv' := [(4, .int y0), (0, .ref h0), (1, .int u1), (3, .int u3)]) hx hb dX12_one_276 hl (by decide) rfl (fun ls hl => ?_)
    refine lv_aload_n hx hb dX12_one_278 rfl (lv_at hl 1 rfl) ?_
    refine va_ldcSW (own := RX12) (index := 436) (tx := soT 19) (q := K 19) hx hb hown (hZ.ref 19 (by decide)) dX12_one_279 ?_
    obtain ⟨cs_4, hv_4, h⟩ := ob h
    refine calV (As := [.ref (K 19)]) hx hb hml hts hown hK hP hD hS hA hZ (s_needWord l dC dI cB cI cJ cZ h0 a K V fz F cs1 19 (by decide) cs_4 hv_4) (cw_needWord hts (fr := 9) (by show 9 + 1 ≤ n + 1 + 10; omega) (by show 8 + (2 + 11) + 60 * (9) ≤ 60 * (n + 1 + 10); omega)) rfl hl.1 (Nat.le_of_ble_eq_true rfl) ⟨Nat.zero_le _, Nat.zero_le _⟩ dX12_one_282 (fun H locs hP hD hS => ?_)
    refine lv_aload_n hx hb dX12_one_285 rfl (lv_at hl 1 rfl) ?_
    refine fg_21 hx hb hts hown hK hP dX12_one_286 ?_
    refine lv_if_eq (tgt := 299) hx hb dX12_one_289 (by decide) (fun c_5 => ?_) (fun c_5 => ?_)
    · skip
      replace h := (if_pos c_5).symm.trans h
      refine lv_iconst (v := 0) hx hb dX12_one_299 (by decide) ?_
      exact B_300 cs_4 u1 u3 y0 0 h _ _ _ hP hD hS (lv_sub hl [1, 2, 3, 0] rfl)
    · skip
      replace h := (if_neg c_5).symm.trans h
      refine lv_aload_n hx hb dX12_one_292 rfl (lv_at hl 1 rfl) ?_
      obtain ⟨z_6, hv_6, h⟩ := ob h
      refine calI (As := []) hx hb hml hts hown hK hP hD hS hA hZ (hT_expr cs_4  z_6.1 z_6.2 hv_6) (cw_expr hts (fr := n + 10) (by show n + 10 + 1 ≤ n + 1 + 10; omega) (by show 8 + (5 + 11) + 60 * (n + 10) ≤ 60 * (n + 1 + 10); omega)) rfl hl.1 (Nat.le_of_ble_eq_true rfl) ⟨Nat.zero_le _, Nat.zero_le _⟩ dX12_one_293 (fun H locs hP hD hS => ?_)
      refine lv_goto (tgt := 300) hx hb dX12_one_296 (by decide) ?_
      exact B_300 z_6.1 u1 u3 y0 z_6.2 h _ _ _ hP hD hS (lv_sub hl [1, 2, 3, 0] rfl)
  have B_253 : ∀ (cs1 : RS) (u1 : Int32) (y0 : Int32), m_one_b253 F T cs1 u1 y0 = some (cs9, r9) → ∀ (H : Heap) (locs : List Loc) (ls : Array Slot), va_P (dC, dI) vwCl (mW cB cI cJ cZ h0 a cs1) H → va_D A (mW cB cI cJ cZ h0 a cs1) → va_S A s.heap H locs → lv_has ls 6 [(0, .ref h0), (1, .int u1)] → W p l e (headSpec (wsOf yX12_one cX12_one 6 (some .int)) ({ frames := n + 1 + 10, cells := 0, slots := 0, locals := 60 * (n + 1 + 10) } : Room)).room s m ([.ref h0] : List Value).toArray below meth c H locs 0 0 (MQ below (va_Qi (fun (x : Int32) (_ : Unit) => x = r9) (fun _ t_ => va_P (dC, dI) vwCl (mW cB cI cJ cZ h0 a cs9) t_.heap ∧ va_D A (mW cB cI cJ cZ h0 a cs9)) A) ([.ref h0] : List Value).toArray s 0 0 A) (F0 m 253 ls [.int y0]) := by
    intro cs1 u1 y0 h H locs ls hP hD hS hl
    unfold m_one_b253 at h
    refine lv_istore_n (lv' := [(3, .int y0), (0, .ref h0), (1, .int u1)]) hx hb dX12_one_253 rfl hl (by decide) rfl (fun ls hl => ?_)
    refine lv_aload_n hx hb dX12_one_254 rfl (lv_at hl 1 rfl) ?_
    refine va_ldcSW (own := RX12) (index := 434) (tx := soT 18) (q := K 18) hx hb hown (hZ.ref 18 (by decide)) dX12_one_255 ?_
    obtain ⟨cs_7, hv_7, h⟩ := ob h
    refine calV (As := [.ref (K 18)]) hx hb hml hts hown hK hP hD hS hA hZ (s_needWord l dC dI cB cI cJ cZ h0 a K V fz F cs1 18 (by decide) cs_7 hv_7) (cw_needWord hts (fr := 9) (by show 9 + 1 ≤ n + 1 + 10; omega) (by show 8 + (2 + 11) + 60 * (9) ≤ 60 * (n + 1 + 10); omega)) rfl hl.1 (Nat.le_of_ble_eq_true rfl) ⟨Nat.zero_le _, Nat.zero_le _⟩ dX12_one_258 (fun H locs hP hD hS => ?_)
    refine lv_aload_n hx hb dX12_one_261 rfl (lv_at hl 1 rfl) ?_
    refine fg_21 hx hb hts hown hK hP dX12_one_262 ?_
    refine lv_if_eq (tgt := 275) hx hb dX12_one_265 (by decide) (fun c_8 => ?_) (fun c_8 => ?_)
    · skip
      replace h := (if_pos c_8).symm.trans h
      refine lv_iconst (v := 0) hx hb dX12_one_275 (by decide) ?_
      exact B_276 cs_7 u1 y0 0 h _ _ _ hP hD hS (lv_sub hl [1, 2, 0] rfl)
    · skip
      replace h := (if_neg c_8).symm.trans h
      refine lv_aload_n hx hb dX12_one_268 rfl (lv_at hl 1 rfl) ?_
      obtain ⟨z_9, hv_9, h⟩ := ob h
      refine calI (As := []) hx hb hml hts hown hK hP hD hS hA hZ (hT_expr cs_7  z_9.1 z_9.2 hv_9) (cw_expr hts (fr := n + 10) (by show n + 10 + 1 ≤ n + 1 + 10; omega) (by show 8 + (5 + 11) + 60 * (n + 10) ≤ 60 * (n + 1 + 10); omega)) rfl hl.1 (Nat.le_of_ble_eq_true rfl) ⟨Nat.zero_le _, Nat.zero_le _⟩ dX12_one_269 (fun H locs hP hD hS => ?_)
      refine lv_goto (tgt := 276) hx hb dX12_one_272 (by decide) ?_
      exact B_276 z_9.1 u1 y0 z_9.2 h _ _ _ hP hD hS (lv_sub hl [1, 2, 0] rfl)
  have B_404 : ∀ (cs1 : RS) (u1 : Int32) (u3 : Int32) (y0 : Int32), m_one_b404 F T cs1 u1 u3 y0 = some (cs9, r9) → ∀ (H : Heap) (locs : List Loc) (ls : Array Slot), va_P (dC, dI) vwCl (mW cB cI cJ cZ h0 a cs1) H → va_D A (mW cB cI cJ cZ h0 a cs1) → va_S A s.heap H locs → lv_has ls 6 [(0, .ref h0), (1, .int u1), (3, .int u3)] → W p l e (headSpec (wsOf yX12_one cX12_one 6 (some .int)) ({ frames := n + 1 + 10, cells := 0, slots := 0, locals := 60 * (n + 1 + 10) } : Room)).room s m ([.ref h0] : List Value).toArray below meth c H locs 0 0 (MQ below (va_Qi (fun (x : Int32) (_ : Unit) => x = r9) (fun _ t_ => va_P (dC, dI) vwCl (mW cB cI cJ cZ h0 a cs9) t_.heap ∧ va_D A (mW cB cI cJ cZ h0 a cs9)) A) ([.ref h0] : List Value).toArray s 0 0 A) (F0 m 404 ls [.int y0]) := by
    intro cs1 u1 u3 y0 h H locs ls hP hD hS hl
    unfold m_one_b404 at h
    refine lv_istore (lv' := [(4, .int y0), (0, .ref h0), (1, .int u1), (3, .int u3)]) hx hb dX12_one_404 hl (by decide) rfl (fun ls hl => ?_)
    refine lv_aload_n hx hb dX12_one_406 rfl (lv_at hl 1 rfl) ?_
    refine lv_bipush (v := 41) hx hb dX12_one_407 (by decide) ?_
    obtain ⟨cs_10, hv_10, h⟩ := ob h
    refine calV (As := [.int 41]) hx hb hml hts hown hK hP hD hS hA hZ (s_needSign l dC dI cB cI cJ cZ h0 a K V fz F cs1 41 cs_10 hv_10) (cw_needSign hts (fr := 2) (by show 2 + 1 ≤ n + 1 + 10; omega) (by show 8 + (2 + 11) + 60 * (2) ≤ 60 * (n + 1 + 10); omega)) rfl hl.1 (Nat.le_of_ble_eq_true rfl) ⟨Nat.zero_le _, Nat.zero_le _⟩ dX12_one_409 (fun H locs hP hD hS => ?_)
    refine lv_aload_n hx hb dX12_one_412 rfl (lv_at hl 1 rfl) ?_
    refine lv_dup hx hb dX12_one_413 rfl ?_
    refine fg_70 hx hb hts hown hK hP dX12_one_414 ?_
    refine lv_iconst (v := 1) hx hb dX12_one_417 (by decide) ?_
    refine lv_isub hx hb dX12_one_418 ?_
    refine fp_70 hx hb hts hown hK hP hD hS dX12_one_419 (fun H locs hP hD hS => ?_)
    refine lv_aload_n hx hb dX12_one_422 rfl (lv_at hl 1 rfl) ?_
    refine lv_bipush (v := 19) hx hb dX12_one_423 (by decide) ?_
    refine lv_iload_n hx hb dX12_one_425 rfl (lv_at hl 3 rfl) ?_
    refine lv_iload hx hb dX12_one_426 (lv_at hl 0 rfl) ?_
    refine lv_iconst (v := (-1)) hx hb dX12_one_428 (by decide) ?_
    refine lv_iload_n hx hb dX12_one_429 rfl (lv_at hl 2 rfl) ?_
    refine lv_iload_n hx hb dX12_one_430 rfl (lv_at hl 2 rfl) ?_
    obtain ⟨z_11, hv_11, h⟩ := ob h
    refine calI (As := [.int 19, .int u3, .int y0, .int (-1), .int u1, .int u1]) hx hb hml hts hown hK hP hD hS hA hZ (s_make l dC dI cB cI cJ cZ h0 a K V fz F (setF cs_10 70 ((cs_10.1 70) - 1)) 19 u3 y0 (-1) u1 u1 z_11.1 z_11.2 hv_11) (cw_make hts (fr := 1) (by show 1 + 1 ≤ n + 1 + 10; omega) (by show 8 + (8 + 11) + 60 * (1) ≤ 60 * (n + 1 + 10); omega)) rfl hl.1 (Nat.le_of_ble_eq_true rfl) ⟨Nat.zero_le _, Nat.zero_le _⟩ dX12_one_431 (fun H locs hP hD hS => ?_)
    refine lv_istore_n (lv' := [(2, .int z_11.2), (4, .int y0), (0, .ref h0), (1, .int u1), (3, .int u3)]) hx hb dX12_one_434 rfl hl (by decide) rfl (fun ls hl => ?_)
    refine lv_goto (tgt := 493) hx hb dX12_one_435 (by decide) ?_
    exact B_493 z_11.1 u1 z_11.2 h _ _ _ hP hD hS (lv_sub hl [2, 3, 0] rfl)
  have B_382 : ∀ (cs1 : RS) (u1 : Int32) (y0 : Int32), m_one_b382 F T cs1 u1 y0 = some (cs9, r9) → ∀ (H : Heap) (locs : List Loc) (ls : Array Slot), va_P (dC, dI) vwCl (mW cB cI cJ cZ h0 a cs1) H → va_D A (mW cB cI cJ cZ h0 a cs1) → va_S A s.heap H locs → lv_has ls 6 [(0, .ref h0), (1, .int u1)] → W p l e (headSpec (wsOf yX12_one cX12_one 6 (some .int)) ({ frames := n + 1 + 10, cells := 0, slots := 0, locals := 60 * (n + 1 + 10) } : Room)).room s m ([.ref h0] : List Value).toArray below meth c H locs 0 0 (MQ below (va_Qi (fun (x : Int32) (_ : Unit) => x = r9) (fun _ t_ => va_P (dC, dI) vwCl (mW cB cI cJ cZ h0 a cs9) t_.heap ∧ va_D A (mW cB cI cJ cZ h0 a cs9)) A) ([.ref h0] : List Value).toArray s 0 0 A) (F0 m 382 ls [.int y0]) := by
    intro cs1 u1 y0 h H locs ls hP hD hS hl
    unfold m_one_b382 at h
    refine lv_istore_n (lv' := [(3, .int y0), (0, .ref h0), (1, .int u1)]) hx hb dX12_one_382 rfl hl (by decide) rfl (fun ls hl => ?_)
    refine lv_aload_n hx hb dX12_one_383 rfl (lv_at hl 1 rfl) ?_
    refine lv_bipush (v := 44) hx hb dX12_one_384 (by decide) ?_
    obtain ⟨cs_12, hv_12, h⟩ := ob h
    refine calV (As := [.int 44]) hx hb hml hts hown hK hP hD hS hA hZ (s_needSign l dC dI cB cI cJ cZ h0 a K V fz F cs1 44 cs_12 hv_12) (cw_needSign hts (fr := 2) (by show 2 + 1 ≤ n + 1 + 10; omega) (by show 8 + (2 + 11) + 60 * (2) ≤ 60 * (n + 1 + 10); omega)) rfl hl.1 (Nat.le_of_ble_eq_true rfl) ⟨Nat.zero_le _, Nat.zero_le _⟩ dX12_one_386 (fun H locs hP hD hS => ?_)
    refine lv_aload_n hx hb dX12_one_389 rfl (lv_at hl 1 rfl) ?_
    refine fg_21 hx hb hts hown hK hP dX12_one_390 ?_
    refine lv_if_eq (tgt := 403) hx hb dX12_one_393 (by decide) (fun c_13 => ?_) (fun c_13 => ?_)
    · skip
      replace h := (if_pos c_13).symm.trans h
      refine lv_iconst (v := 0) hx hb dX12_one_403 (by decide) ?_
      exact B_404 cs_12 u1 y0 0 h _ _ _ hP hD hS (lv_sub hl [1, 2, 0] rfl)
    · skip
      replace h := (if_neg c_13).symm.trans h
      refine lv_aload_n hx hb dX12_one_396 rfl (lv_at hl 1 rfl) ?_
      obtain ⟨z_14, hv_14, h⟩ := ob h
      refine calI (As := []) hx hb hml hts hown hK hP hD hS hA hZ (hT_expr cs_12  z_14.1 z_14.2 hv_14) (cw_expr hts (fr := n + 10) (by show n + 10 + 1 ≤ n + 1 + 10; omega) (by show 8 + (5 + 11) + 60 * (n + 10) ≤ 60 * (n + 1 + 10); omega)) rfl hl.1 (Nat.le_of_ble_eq_true rfl) ⟨Nat.zero_le _, Nat.zero_le _⟩ dX12_one_397 (fun H locs hP hD hS => ?_)
      refine lv_goto (tgt := 404) hx hb dX12_one_400 (by decide) ?_
      exact B_404 z_14.1 u1 y0 z_14.2 h _ _ _ hP hD hS (lv_sub hl [1, 2, 0] rfl)
  have B_478 : ∀ (cs1 : RS) (u1 : Int32), m_one_b478 F T cs1 u1 = some (cs9, r9) → ∀ (H : Heap) (locs : List Loc) (ls : Array Slot), va_P (dC, dI) vwCl (mW cB cI cJ cZ h0 a cs1) H → va_D A (mW cB cI cJ cZ h0 a cs1) → va_S A s.heap H locs → lv_has ls 6 [(0, .ref h0), (1, .int u1)] → W p l e (headSpec (wsOf yX12_one cX12_one 6 (some .int)) ({ frames := n + 1 + 10, cells := 0, slots := 0, locals := 60 * (n + 1 + 10) } : Room)).room s m ([.ref h0] : List Value).toArray below meth c H locs 0 0 (MQ below (va_Qi (fun (x : Int32) (_ : Unit) => x = r9) (fun _ t_ => va_P (dC, dI) vwCl (mW cB cI cJ cZ h0 a cs9) t_.heap ∧ va_D A (mW cB cI cJ cZ h0 a cs9)) A) ([.ref h0] : List Value).toArray s 0 0 A) (F0 m 478 ls []) := by
    intro cs1 u1 h H locs ls hP hD hS hl
    unfold m_one_b478 at h
    refine lv_aload_n hx hb dX12_one_478 rfl (lv_at hl 0 rfl) ?_
    refine lv_iload_n hx hb dX12_one_479 rfl (lv_at hl 1 rfl) ?_
    obtain ⟨z_15, hv_15, h⟩ := ob h
    refine calI (As := [.int u1]) hx hb hml hts hown hK hP hD hS hA hZ (hT_aggregate cs1 u1 z_15.1 z_15.2 hv_15) (cw_aggregate hts (fr := n + 10) (by show n + 10 + 1 ≤ n + 1 + 10; omega) (by show 8 + (4 + 11) + 60 * (n + 10) ≤ 60 * (n + 1 + 10); omega)) rfl hl.1 (Nat.le_of_ble_eq_true rfl) ⟨Nat.zero_le _, Nat.zero_le _⟩ dX12_one_480 (fun H locs hP hD hS => ?_)
    refine lv_istore_n (lv' := [(2, .int z_15.2), (0, .ref h0), (1, .int u1)]) hx hb dX12_one_483 rfl hl (by decide) rfl (fun ls hl => ?_)
    refine lv_goto (tgt := 493) hx hb dX12_one_484 (by decide) ?_
    exact B_493 z_15.1 u1 z_15.2 h _ _ _ hP hD hS (lv_sub hl [1, 2, 0] rfl)
  have h := hf
  unfold b_one at h
  refine lv_aload_n hx hb dX12_one_0 rfl (lv_at hl 0 rfl) ?_
  refine fg_15 hx hb hts hown hK hP dX12_one_1 ?_
  refine lv_aload_n hx hb dX12_one_4 rfl (lv_at hl 0 rfl) ?_
  refine fg_18 hx hb hts hown hK hP dX12_one_5 ?_
  obtain ⟨v_16, hv_16, h⟩ := ob h
  refine ag_15 hx hb hK hP hv_16 dX12_one_8 ?_
  refine lv_istore_n (lv' := [(1, .int v_16), (0, .ref h0)]) hx hb dX12_one_9 rfl hl (by decide) rfl (fun ls hl => ?_)
  refine lv_iconst (v := 0) hx hb dX12_one_10 (by decide) ?_
  refine lv_istore_n (lv' := [(2, .int 0), (1, .int v_16), (0, .ref h0)]) hx hb dX12_one_11 rfl hl (by decide) rfl (fun ls hl => ?_)
  refine lv_aload_n hx hb dX12_one_12 rfl (lv_at hl 2 rfl) ?_
  refine fg_21 hx hb hts hown hK hP dX12_one_13 ?_
  refine lv_if_ne (tgt := 21) hx hb dX12_one_16 (by decide) (fun c_17 => ?_) (fun c_17 => ?_)
  · skip
    replace h := (if_neg c_17).symm.trans h
    refine lv_aload_n hx hb dX12_one_21 rfl (lv_at hl 2 rfl) ?_
    refine fg_14 hx hb hts hown hK hP dX12_one_22 ?_
    refine lv_aload_n hx hb dX12_one_25 rfl (lv_at hl 2 rfl) ?_
    refine fg_18 hx hb hts hown hK hP dX12_one_26 ?_
    obtain ⟨v_18, hv_18, h⟩ := ob h
    refine ag_14 hx hb hK hP hv_18 dX12_one_29 ?_
    refine lv_iconst (v := 2) hx hb dX12_one_30 (by decide) ?_
    refine lv_icmp_ne (tgt := 75) hx hb dX12_one_31 (by decide) (fun c_19 => ?_) (fun c_19 => ?_)
    · skip
      replace h := (if_neg c_19).symm.trans h
      refine lv_aload_n hx hb dX12_one_75 rfl (lv_at hl 2 rfl) ?_
      refine va_ldcSW (own := RX12) (index := 364) (tx := soT 9) (q := K 9) hx hb hown (hZ.ref 9 (by decide)) dX12_one_76 ?_
      obtain ⟨z_20, hv_20, h⟩ := ob h
      refine calI (As := [.ref (K 9)]) hx hb hml hts hown hK hP hD hS hA hZ (s_takeWord l dC dI cB cI cJ cZ h0 a K V fz F cs 9 (by decide) z_20.1 z_20.2 hv_20) (cw_takeWord hts (fr := 8) (by show 8 + 1 ≤ n + 1 + 10; omega) (by show 8 + (3 + 11) + 60 * (8) ≤ 60 * (n + 1 + 10); omega)) rfl hl.1 (Nat.le_of_ble_eq_true rfl) ⟨Nat.zero_le _, Nat.zero_le _⟩ dX12_one_79 (fun H locs hP hD hS => ?_)
      refine lv_if_eq (tgt := 99) hx hb dX12_one_82 (by decide) (fun c_21 => ?_) (fun c_21 => ?_)
      · skip
        replace h := (if_pos c_21).symm.trans h
        refine lv_aload_n hx hb dX12_one_99 rfl (lv_at hl 2 rfl) ?_
        refine va_ldcSW (own := RX12) (index := 366) (tx := soT 10) (q := K 10) hx hb hown (hZ.ref 10 (by decide)) dX12_one_100 ?_
        obtain ⟨z_22, hv_22, h⟩ := ob h
        refine calI (As := [.ref (K 10)]) hx hb hml hts hown hK hP hD hS hA hZ (s_takeWord l dC dI cB cI cJ cZ h0 a K V fz F z_20.1 10 (by decide) z_22.1 z_22.2 hv_22) (cw_takeWord hts (fr := 8) (by show 8 + 1 ≤ n + 1 + 10; omega) (by show 8 + (3 + 11) + 60 * (8) ≤ 60 * (n + 1 + 10); omega)) rfl hl.1 (Nat.le_of_ble_eq_true rfl) ⟨Nat.zero_le _, Nat.zero_le _⟩ dX12_one_103 (fun H locs hP hD hS => ?_)
        refine lv_if_eq (tgt := 123) hx hb dX12_one_106 (by decide) (fun c_23 => ?_) (fun c_23 => ?_)
        · skip
          replace h := (if_pos c_23).symm.trans h
          refine lv_aload_n hx hb dX12_one_123 rfl (lv_at hl 2 rfl) ?_
          refine va_ldcSW (own := RX12) (index := 368) (tx := soT 11) (q := K 11) hx hb hown (hZ.ref 11 (by decide)) dX12_one_124 ?_
          obtain ⟨z_24, hv_24, h⟩ := ob h
          refine calI (As := [.ref (K 11)]) hx hb hml hts hown hK hP hD hS hA hZ (s_takeWord l dC dI cB cI cJ cZ h0 a K V fz F z_22.1 11 (by decide) z_24.1 z_24.2 hv_24) (cw_takeWord hts (fr := 8) (by show 8 + 1 ≤ n + 1 + 10; omega) (by show 8 + (3 + 11) + 60 * (8) ≤ 60 * (n + 1 + 10); omega)) rfl hl.1 (Nat.le_of_ble_eq_true rfl) ⟨Nat.zero_le _, Nat.zero_le _⟩ dX12_one_127 (fun H locs hP hD hS => ?_)
          refine lv_if_eq (tgt := 147) hx hb dX12_one_130 (by decide) (fun c_25 => ?_) (fun c_25 => ?_)
          · skip
            replace h := (if_pos c_25).symm.trans h
            refine lv_aload_n hx hb dX12_one_147 rfl (lv_at hl 2 rfl) ?_
            refine lv_bipush (v := 40) hx hb dX12_one_148 (by decide) ?_
            obtain ⟨v_26, hv_26, h⟩ := ob h
            refine calI (As := [.int 40]) hx hb hml hts hown hK hP hD hS hA hZ (s_isSign l dC dI cB cI cJ cZ h0 a K V fz F z_24.1 40 v_26 hv_26) (cw_isSign hts (fr := 0) (by show 0 + 1 ≤ n + 1 + 10; omega) (by show 8 + (2 + 11) + 60 * (0) ≤ 60 * (n + 1 + 10); omega)) rfl hl.1 (Nat.le_of_ble_eq_true rfl) ⟨Nat.zero_le _, Nat.zero_le _⟩ dX12_one_150 (fun H locs hP hD hS => ?_)
            refine lv_if_eq (tgt := 206) hx hb dX12_one_153 (by decide) (fun c_27 => ?_) (fun c_27 => ?_)
            · skip
              replace h := (if_pos c_27).symm.trans h
              refine lv_aload_n hx hb dX12_one_206 rfl (lv_at hl 2 rfl) ?_
              refine va_ldcSW (own := RX12) (index := 370) (tx := soT 12) (q := K 12) hx hb hown (hZ.ref 12 (by decide)) dX12_one_207 ?_
              obtain ⟨v_28, hv_28, h⟩ := ob h
              refine calI (As := [.ref (K 12)]) hx hb hml hts hown hK hP hD hS hA hZ (s_isWord l dC dI cB cI cJ cZ h0 a K V fz F z_24.1 12 (by decide) v_28 hv_28) (cw_isWord hts (fr := 7) (by show 7 + 1 ≤ n + 1 + 10; omega) (by show 8 + (2 + 11) + 60 * (7) ≤ 60 * (n + 1 + 10); omega)) rfl hl.1 (Nat.le_of_ble_eq_true rfl) ⟨Nat.zero_le _, Nat.zero_le _⟩ dX12_one_210 (fun H locs hP hD hS => ?_)
              refine lv_if_eq (tgt := 336) hx hb dX12_one_213 (by decide) (fun c_29 => ?_) (fun c_29 => ?_)
              · skip
                replace h := (if_pos c_29).symm.trans h
                refine lv_aload_n hx hb dX12_one_336 rfl (lv_at hl 2 rfl) ?_
                refine va_ldcSW (own := RX12) (index := 372) (tx := soT 13) (q := K 13) hx hb hown (hZ.ref 13 (by decide)) dX12_one_337 ?_
                obtain ⟨v_30, hv_30, h⟩ := ob h
                refine calI (As := [.ref (K 13)]) hx hb hml hts hown hK hP hD hS hA hZ (s_isWord l dC dI cB cI cJ cZ h0 a K V fz F z_24.1 13 (by decide) v_30 hv_30) (cw_isWord hts (fr := 7) (by show 7 + 1 ≤ n + 1 + 10; omega) (by show 8 + (2 + 11) + 60 * (7) ≤ 60 * (n + 1 + 10); omega)) rfl hl.1 (Nat.le_of_ble_eq_true rfl) ⟨Nat.zero_le _, Nat.zero_le _⟩ dX12_one_340 (fun H locs hP hD hS => ?_)
                refine lv_if_eq (tgt := 438) hx hb dX12_one_343 (by decide) (fun c_31 => ?_) (fun c_31 => ?_)
                · skip
                  replace h := (if_pos c_31).symm.trans h
                  refine lv_aload_n hx hb dX12_one_438 rfl (lv_at hl 2 rfl) ?_
                  refine va_ldcSW (own := RX12) (index := 350) (tx := soT 5) (q := K 5) hx hb hown (hZ.ref 5 (by decide)) dX12_one_439 ?_
                  obtain ⟨v_32, hv_32, h⟩ := ob h
                  refine calI (As := [.ref (K 5)]) hx hb hml hts hown hK hP hD hS hA hZ (s_isWord l dC dI cB cI cJ cZ h0 a K V fz F z_24.1 5 (by decide) v_32 hv_32) (cw_isWord hts (fr := 7) (by show 7 + 1 ≤ n + 1 + 10; omega) (by show 8 + (2 + 11) + 60 * (7) ≤ 60 * (n + 1 + 10); omega)) rfl hl.1 (Nat.le_of_ble_eq_true rfl) ⟨Nat.zero_le _, Nat.zero_le _⟩ dX12_one_442 (fun H locs hP hD hS => ?_)
                  refine lv_if_ne (tgt := 478) hx hb dX12_one_445 (by decide) (fun c_33 => ?_) (fun c_33 => ?_)
                  · skip
                    replace h := (if_neg c_33).symm.trans h
                    exact B_478 z_24.1 v_16 h _ _ _ hP hD hS (lv_sub hl [2, 1] rfl)
                  · skip
                    replace h := (if_pos c_33).symm.trans h
                    refine lv_aload_n hx hb dX12_one_448 rfl (lv_at hl 2 rfl) ?_
                    refine va_ldcSW (own := RX12) (index := 352) (tx := soT 6) (q := K 6) hx hb hown (hZ.ref 6 (by decide)) dX12_one_449 ?_
                    obtain ⟨v_34, hv_34, h⟩ := ob h
                    refine calI (As := [.ref (K 6)]) hx hb hml hts hown hK hP hD hS hA hZ (s_isWord l dC dI cB cI cJ cZ h0 a K V fz F z_24.1 6 (by decide) v_34 hv_34) (cw_isWord hts (fr := 7) (by show 7 + 1 ≤ n + 1 + 10; omega) (by show 8 + (2 + 11) + 60 * (7) ≤ 60 * (n + 1 + 10); omega)) rfl hl.1 (Nat.le_of_ble_eq_true rfl) ⟨Nat.zero_le _, Nat.zero_le _⟩ dX12_one_452 (fun H locs hP hD hS => ?_)
                    refine lv_if_ne (tgt := 478) hx hb dX12_one_455 (by decide) (fun c_35 => ?_) (fun c_35 => ?_)
                    · skip
                      replace h := (if_neg c_35).symm.trans h
                      exact B_478 z_24.1 v_16 h _ _ _ hP hD hS (lv_sub hl [2, 1] rfl)
                    · skip
                      replace h := (if_pos c_35).symm.trans h
                      refine lv_aload_n hx hb dX12_one_458 rfl (lv_at hl 2 rfl) ?_
                      refine va_ldcSW (own := RX12) (index := 354) (tx := soT 7) (q := K 7) hx hb hown (hZ.ref 7 (by decide)) dX12_one_459 ?_
                      obtain ⟨v_36, hv_36, h⟩ := ob h
                      refine calI (As := [.ref (K 7)]) hx hb hml hts hown hK hP hD hS hA hZ (s_isWord l dC dI cB cI cJ cZ h0 a K V fz F z_24.1 7 (by decide) v_36 hv_36) (cw_isWord hts (fr := 7) (by show 7 + 1 ≤ n + 1 + 10; omega) (by show 8 + (2 + 11) + 60 * (7) ≤ 60 * (n + 1 + 10); omega)) rfl hl.1 (Nat.le_of_ble_eq_true rfl) ⟨Nat.zero_le _, Nat.zero_le _⟩ dX12_one_462 (fun H locs hP hD hS => ?_)
                      refine lv_if_ne (tgt := 478) hx hb dX12_one_465 (by decide) (fun c_37 => ?_) (fun c_37 => ?_)
                      · skip
                        replace h := (if_neg c_37).symm.trans h
                        exact B_478 z_24.1 v_16 h _ _ _ hP hD hS (lv_sub hl [2, 1] rfl)
                      · skip
                        replace h := (if_pos c_37).symm.trans h
                        refine lv_aload_n hx hb dX12_one_468 rfl (lv_at hl 2 rfl) ?_
                        refine va_ldcSW (own := RX12) (index := 356) (tx := soT 8) (q := K 8) hx hb hown (hZ.ref 8 (by decide)) dX12_one_469 ?_
                        obtain ⟨v_38, hv_38, h⟩ := ob h
                        refine calI (As := [.ref (K 8)]) hx hb hml hts hown hK hP hD hS hA hZ (s_isWord l dC dI cB cI cJ cZ h0 a K V fz F z_24.1 8 (by decide) v_38 hv_38) (cw_isWord hts (fr := 7) (by show 7 + 1 ≤ n + 1 + 10; omega) (by show 8 + (2 + 11) + 60 * (7) ≤ 60 * (n + 1 + 10); omega)) rfl hl.1 (Nat.le_of_ble_eq_true rfl) ⟨Nat.zero_le _, Nat.zero_le _⟩ dX12_one_472 (fun H locs hP hD hS => ?_)
                        refine lv_if_eq (tgt := 487) hx hb dX12_one_475 (by decide) (fun c_39 => ?_) (fun c_39 => ?_)
                        · skip
                          replace h := (if_pos c_39).symm.trans h
                          refine lv_aload_n hx hb dX12_one_487 rfl (lv_at hl 2 rfl) ?_
                          refine lv_iload_n hx hb dX12_one_488 rfl (lv_at hl 1 rfl) ?_
                          obtain ⟨z_40, hv_40, h⟩ := ob h
                          refine calI (As := [.int v_16]) hx hb hml hts hown hK hP hD hS hA hZ (s_columnOf l dC dI cB cI cJ cZ h0 a K V fz F z_24.1 v_16 z_40.1 z_40.2 hv_40) (cw_columnOf hts (fr := 9) (by show 9 + 1 ≤ n + 1 + 10; omega) (by show 8 + (5 + 11) + 60 * (9) ≤ 60 * (n + 1 + 10); omega)) rfl hl.1 (Nat.le_of_ble_eq_true rfl) ⟨Nat.zero_le _, Nat.zero_le _⟩ dX12_one_489 (fun H locs hP hD hS => ?_)
                          refine lv_istore_n (lv' := [(2, .int z_40.2), (1, .int v_16), (0, .ref h0)]) hx hb dX12_one_492 rfl hl (by decide) rfl (fun ls hl => ?_)
                          exact B_493 z_40.1 v_16 z_40.2 h _ _ _ hP hD hS (lv_sub hl [2, 1, 0] rfl)
                        · skip
                          replace h := (if_neg c_39).symm.trans h
                          exact B_478 z_24.1 v_16 h _ _ _ hP hD hS (lv_sub hl [2, 1] rfl)
                · skip
                  replace h := (if_neg c_31).symm.trans h
                  refine lv_aload_n hx hb dX12_one_346 rfl (lv_at hl 2 rfl) ?_
                  refine lv_iload_n hx hb dX12_one_347 rfl (lv_at hl 1 rfl) ?_
                  obtain ⟨cs_41, hv_41, h⟩ := ob h
                  refine calV (As := [.int v_16]) hx hb hml hts hown hK hP hD hS hA hZ (s_deeper l dC dI cB cI cJ cZ h0 a K V fz F z_24.1 v_16 cs_41 hv_41) (cw_deeper hts (fr := 1) (by show 1 + 1 ≤ n + 1 + 10; omega) (by show 8 + (2 + 11) + 60 * (1) ≤ 60 * (n + 1 + 10); omega)) rfl hl.1 (Nat.le_of_ble_eq_true rfl) ⟨Nat.zero_le _, Nat.zero_le _⟩ dX12_one_348 (fun H locs hP hD hS => ?_)
                  refine lv_aload_n hx hb dX12_one_351 rfl (lv_at hl 2 rfl) ?_
                  refine lv_dup hx hb dX12_one_352 rfl ?_
                  refine fg_18 hx hb hts hown hK hP dX12_one_353 ?_
                  refine lv_iconst (v := 1) hx hb dX12_one_356 (by decide) ?_
                  refine lv_iadd hx hb dX12_one_357 ?_
                  refine fp_18 hx hb hts hown hK hP hD hS dX12_one_358 (fun H locs hP hD hS => ?_)
                  refine lv_aload_n hx hb dX12_one_361 rfl (lv_at hl 2 rfl) ?_
                  refine lv_bipush (v := 40) hx hb dX12_one_362 (by decide) ?_
                  obtain ⟨cs_42, hv_42, h⟩ := ob h
                  refine calV (As := [.int 40]) hx hb hml hts hown hK hP hD hS hA hZ (s_needSign l dC dI cB cI cJ cZ h0 a K V fz F (setF cs_41 18 ((cs_41.1 18) + 1)) 40 cs_42 hv_42) (cw_needSign hts (fr := 2) (by show 2 + 1 ≤ n + 1 + 10; omega) (by show 8 + (2 + 11) + 60 * (2) ≤ 60 * (n + 1 + 10); omega)) rfl hl.1 (Nat.le_of_ble_eq_true rfl) ⟨Nat.zero_le _, Nat.zero_le _⟩ dX12_one_364 (fun H locs hP hD hS => ?_)
                  refine lv_aload_n hx hb dX12_one_367 rfl (lv_at hl 2 rfl) ?_
                  refine fg_21 hx hb hts hown hK hP dX12_one_368 ?_
                  refine lv_if_eq (tgt := 381) hx hb dX12_one_371 (by decide) (fun c_43 => ?_) (fun c_43 => ?_)
                  · skip
                    replace h := (if_pos c_43).symm.trans h
                    refine lv_iconst (v := 0) hx hb dX12_one_381 (by decide) ?_
                    exact B_382 cs_42 v_16 0 h _ _ _ hP hD hS (lv_sub hl [2, 1] rfl)
                  · skip
                    replace h := (if_neg c_43).symm.trans h
                    refine lv_aload_n hx hb dX12_one_374 rfl (lv_at hl 2 rfl) ?_
                    obtain ⟨z_44, hv_44, h⟩ := ob h
                    refine calI (As := []) hx hb hml hts hown hK hP hD hS hA hZ (hT_expr cs_42  z_44.1 z_44.2 hv_44) (cw_expr hts (fr := n + 10) (by show n + 10 + 1 ≤ n + 1 + 10; omega) (by show 8 + (5 + 11) + 60 * (n + 10) ≤ 60 * (n + 1 + 10); omega)) rfl hl.1 (Nat.le_of_ble_eq_true rfl) ⟨Nat.zero_le _, Nat.zero_le _⟩ dX12_one_375 (fun H locs hP hD hS => ?_)
                    refine lv_goto (tgt := 382) hx hb dX12_one_378 (by decide) ?_
                    exact B_382 z_44.1 v_16 z_44.2 h _ _ _ hP hD hS (lv_sub hl [2, 1] rfl)
              · skip
                replace h := (if_neg c_29).symm.trans h
                refine lv_aload_n hx hb dX12_one_216 rfl (lv_at hl 2 rfl) ?_
                refine lv_iload_n hx hb dX12_one_217 rfl (lv_at hl 1 rfl) ?_
                obtain ⟨cs_45, hv_45, h⟩ := ob h
                refine calV (As := [.int v_16]) hx hb hml hts hown hK hP hD hS hA hZ (s_deeper l dC dI cB cI cJ cZ h0 a K V fz F z_24.1 v_16 cs_45 hv_45) (cw_deeper hts (fr := 1) (by show 1 + 1 ≤ n + 1 + 10; omega) (by show 8 + (2 + 11) + 60 * (1) ≤ 60 * (n + 1 + 10); omega)) rfl hl.1 (Nat.le_of_ble_eq_true rfl) ⟨Nat.zero_le _, Nat.zero_le _⟩ dX12_one_218 (fun H locs hP hD hS => ?_)
                refine lv_aload_n hx hb dX12_one_221 rfl (lv_at hl 2 rfl) ?_
                refine lv_dup hx hb dX12_one_222 rfl ?_
                refine fg_18 hx hb hts hown hK hP dX12_one_223 ?_
                refine lv_iconst (v := 1) hx hb dX12_one_226 (by decide) ?_
                refine lv_iadd hx hb dX12_one_227 ?_
                refine fp_18 hx hb hts hown hK hP hD hS dX12_one_228 (fun H locs hP hD hS => ?_)
                refine lv_aload_n hx hb dX12_one_231 rfl (lv_at hl 2 rfl) ?_
                refine va_ldcSW (own := RX12) (index := 432) (tx := soT 17) (q := K 17) hx hb hown (hZ.ref 17 (by decide)) dX12_one_232 ?_
                obtain ⟨cs_46, hv_46, h⟩ := ob h
                refine calV (As := [.ref (K 17)]) hx hb hml hts hown hK hP hD hS hA hZ (s_needWord l dC dI cB cI cJ cZ h0 a K V fz F (setF cs_45 18 ((cs_45.1 18) + 1)) 17 (by decide) cs_46 hv_46) (cw_needWord hts (fr := 9) (by show 9 + 1 ≤ n + 1 + 10; omega) (by show 8 + (2 + 11) + 60 * (9) ≤ 60 * (n + 1 + 10); omega)) rfl hl.1 (Nat.le_of_ble_eq_true rfl) ⟨Nat.zero_le _, Nat.zero_le _⟩ dX12_one_235 (fun H locs hP hD hS => ?_)
                refine lv_aload_n hx hb dX12_one_238 rfl (lv_at hl 2 rfl) ?_
                refine fg_21 hx hb hts hown hK hP dX12_one_239 ?_
                refine lv_if_eq (tgt := 252) hx hb dX12_one_242 (by decide) (fun c_47 => ?_) (fun c_47 => ?_)
                · skip
                  replace h := (if_pos c_47).symm.trans h
                  refine lv_iconst (v := 0) hx hb dX12_one_252 (by decide) ?_
                  exact B_253 cs_46 v_16 0 h _ _ _ hP hD hS (lv_sub hl [2, 1] rfl)
                · skip
                  replace h := (if_neg c_47).symm.trans h
                  refine lv_aload_n hx hb dX12_one_245 rfl (lv_at hl 2 rfl) ?_
                  obtain ⟨z_48, hv_48, h⟩ := ob h
                  refine calI (As := []) hx hb hml hts hown hK hP hD hS hA hZ (hT_expr cs_46  z_48.1 z_48.2 hv_48) (cw_expr hts (fr := n + 10) (by show n + 10 + 1 ≤ n + 1 + 10; omega) (by show 8 + (5 + 11) + 60 * (n + 10) ≤ 60 * (n + 1 + 10); omega)) rfl hl.1 (Nat.le_of_ble_eq_true rfl) ⟨Nat.zero_le _, Nat.zero_le _⟩ dX12_one_246 (fun H locs hP hD hS => ?_)
                  refine lv_goto (tgt := 253) hx hb dX12_one_249 (by decide) ?_
                  exact B_253 z_48.1 v_16 z_48.2 h _ _ _ hP hD hS (lv_sub hl [2, 1] rfl)
            · skip
              replace h := (if_neg c_27).symm.trans h
              refine lv_aload_n hx hb dX12_one_156 rfl (lv_at hl 2 rfl) ?_
              refine lv_iload_n hx hb dX12_one_157 rfl (lv_at hl 1 rfl) ?_
              obtain ⟨cs_49, hv_49, h⟩ := ob h
              refine calV (As := [.int v_16]) hx hb hml hts hown hK hP hD hS hA hZ (s_deeper l dC dI cB cI cJ cZ h0 a K V fz F z_24.1 v_16 cs_49 hv_49) (cw_deeper hts (fr := 1) (by show 1 + 1 ≤ n + 1 + 10; omega) (by show 8 + (2 + 11) + 60 * (1) ≤ 60 * (n + 1 + 10); omega)) rfl hl.1 (Nat.le_of_ble_eq_true rfl) ⟨Nat.zero_le _, Nat.zero_le _⟩ dX12_one_158 (fun H locs hP hD hS => ?_)
              refine lv_aload_n hx hb dX12_one_161 rfl (lv_at hl 2 rfl) ?_
              refine lv_dup hx hb dX12_one_162 rfl ?_
              refine fg_18 hx hb hts hown hK hP dX12_one_163 ?_
              refine lv_iconst (v := 1) hx hb dX12_one_166 (by decide) ?_
              refine lv_iadd hx hb dX12_one_167 ?_
              refine fp_18 hx hb hts hown hK hP hD hS dX12_one_168 (fun H locs hP hD hS => ?_)
              refine lv_aload_n hx hb dX12_one_171 rfl (lv_at hl 2 rfl) ?_
              refine fg_21 hx hb hts hown hK hP dX12_one_172 ?_
              refine lv_if_eq (tgt := 185) hx hb dX12_one_175 (by decide) (fun c_50 => ?_) (fun c_50 => ?_)
              · skip
                replace h := (if_pos c_50).symm.trans h
                refine lv_iconst (v := 0) hx hb dX12_one_185 (by decide) ?_
                exact B_186 (setF cs_49 18 ((cs_49.1 18) + 1)) v_16 0 h _ _ _ hP hD hS (lv_sub hl [2, 1] rfl)
              · skip
                replace h := (if_neg c_50).symm.trans h
                refine lv_aload_n hx hb dX12_one_178 rfl (lv_at hl 2 rfl) ?_
                obtain ⟨z_51, hv_51, h⟩ := ob h
                refine calI (As := []) hx hb hml hts hown hK hP hD hS hA hZ (hT_expr (setF cs_49 18 ((cs_49.1 18) + 1))  z_51.1 z_51.2 hv_51) (cw_expr hts (fr := n + 10) (by show n + 10 + 1 ≤ n + 1 + 10; omega) (by show 8 + (5 + 11) + 60 * (n + 10) ≤ 60 * (n + 1 + 10); omega)) rfl hl.1 (Nat.le_of_ble_eq_true rfl) ⟨Nat.zero_le _, Nat.zero_le _⟩ dX12_one_179 (fun H locs hP hD hS => ?_)
                refine lv_goto (tgt := 186) hx hb dX12_one_182 (by decide) ?_
                exact B_186 z_51.1 v_16 z_51.2 h _ _ _ hP hD hS (lv_sub hl [2, 1] rfl)
          · skip
            replace h := (if_neg c_25).symm.trans h
            refine lv_aload_n hx hb dX12_one_133 rfl (lv_at hl 2 rfl) ?_
            refine lv_iconst (v := 4) hx hb dX12_one_134 (by decide) ?_
            refine lv_iconst (v := (-1)) hx hb dX12_one_135 (by decide) ?_
            refine lv_iconst (v := (-1)) hx hb dX12_one_136 (by decide) ?_
            refine lv_iconst (v := (-1)) hx hb dX12_one_137 (by decide) ?_
            refine lv_iload_n hx hb dX12_one_138 rfl (lv_at hl 1 rfl) ?_
            refine lv_iload_n hx hb dX12_one_139 rfl (lv_at hl 1 rfl) ?_
            obtain ⟨z_52, hv_52, h⟩ := ob h
            refine calI (As := [.int 4, .int (-1), .int (-1), .int (-1), .int v_16, .int v_16]) hx hb hml hts hown hK hP hD hS hA hZ (s_make l dC dI cB cI cJ cZ h0 a K V fz F z_24.1 4 (-1) (-1) (-1) v_16 v_16 z_52.1 z_52.2 hv_52) (cw_make hts (fr := 1) (by show 1 + 1 ≤ n + 1 + 10; omega) (by show 8 + (8 + 11) + 60 * (1) ≤ 60 * (n + 1 + 10); omega)) rfl hl.1 (Nat.le_of_ble_eq_true rfl) ⟨Nat.zero_le _, Nat.zero_le _⟩ dX12_one_140 (fun H locs hP hD hS => ?_)
            refine lv_istore_n (lv' := [(2, .int z_52.2), (1, .int v_16), (0, .ref h0)]) hx hb dX12_one_143 rfl hl (by decide) rfl (fun ls hl => ?_)
            refine lv_goto (tgt := 493) hx hb dX12_one_144 (by decide) ?_
            exact B_493 z_52.1 v_16 z_52.2 h _ _ _ hP hD hS (lv_sub hl [2, 1, 0] rfl)
        · skip
          replace h := (if_neg c_23).symm.trans h
          refine lv_aload_n hx hb dX12_one_109 rfl (lv_at hl 2 rfl) ?_
          refine lv_iconst (v := 3) hx hb dX12_one_110 (by decide) ?_
          refine lv_iconst (v := (-1)) hx hb dX12_one_111 (by decide) ?_
          refine lv_iconst (v := (-1)) hx hb dX12_one_112 (by decide) ?_
          refine lv_iconst (v := (-1)) hx hb dX12_one_113 (by decide) ?_
          refine lv_iload_n hx hb dX12_one_114 rfl (lv_at hl 1 rfl) ?_
          refine lv_iload_n hx hb dX12_one_115 rfl (lv_at hl 1 rfl) ?_
          obtain ⟨z_53, hv_53, h⟩ := ob h
          refine calI (As := [.int 3, .int (-1), .int (-1), .int (-1), .int v_16, .int v_16]) hx hb hml hts hown hK hP hD hS hA hZ (s_make l dC dI cB cI cJ cZ h0 a K V fz F z_22.1 3 (-1) (-1) (-1) v_16 v_16 z_53.1 z_53.2 hv_53) (cw_make hts (fr := 1) (by show 1 + 1 ≤ n + 1 + 10; omega) (by show 8 + (8 + 11) + 60 * (1) ≤ 60 * (n + 1 + 10); omega)) rfl hl.1 (Nat.le_of_ble_eq_true rfl) ⟨Nat.zero_le _, Nat.zero_le _⟩ dX12_one_116 (fun H locs hP hD hS => ?_)
          refine lv_istore_n (lv' := [(2, .int z_53.2), (1, .int v_16), (0, .ref h0)]) hx hb dX12_one_119 rfl hl (by decide) rfl (fun ls hl => ?_)
          refine lv_goto (tgt := 493) hx hb dX12_one_120 (by decide) ?_
          exact B_493 z_53.1 v_16 z_53.2 h _ _ _ hP hD hS (lv_sub hl [2, 1, 0] rfl)
      · skip
        replace h := (if_neg c_21).symm.trans h
        refine lv_aload_n hx hb dX12_one_85 rfl (lv_at hl 2 rfl) ?_
        refine lv_iconst (v := 2) hx hb dX12_one_86 (by decide) ?_
        refine lv_iconst (v := (-1)) hx hb dX12_one_87 (by decide) ?_
        refine lv_iconst (v := (-1)) hx hb dX12_one_88 (by decide) ?_
        refine lv_iconst (v := (-1)) hx hb dX12_one_89 (by decide) ?_
        refine lv_iload_n hx hb dX12_one_90 rfl (lv_at hl 1 rfl) ?_
        refine lv_iload_n hx hb dX12_one_91 rfl (lv_at hl 1 rfl) ?_
        obtain ⟨z_54, hv_54, h⟩ := ob h
        refine calI (As := [.int 2, .int (-1), .int (-1), .int (-1), .int v_16, .int v_16]) hx hb hml hts hown hK hP hD hS hA hZ (s_make l dC dI cB cI cJ cZ h0 a K V fz F z_20.1 2 (-1) (-1) (-1) v_16 v_16 z_54.1 z_54.2 hv_54) (cw_make hts (fr := 1) (by show 1 + 1 ≤ n + 1 + 10; omega) (by show 8 + (8 + 11) + 60 * (1) ≤ 60 * (n + 1 + 10); omega)) rfl hl.1 (Nat.le_of_ble_eq_true rfl) ⟨Nat.zero_le _, Nat.zero_le _⟩ dX12_one_92 (fun H locs hP hD hS => ?_)
        refine lv_istore_n (lv' := [(2, .int z_54.2), (1, .int v_16), (0, .ref h0)]) hx hb dX12_one_95 rfl hl (by decide) rfl (fun ls hl => ?_)
        refine lv_goto (tgt := 493) hx hb dX12_one_96 (by decide) ?_
        exact B_493 z_54.1 v_16 z_54.2 h _ _ _ hP hD hS (lv_sub hl [2, 1, 0] rfl)
    · skip
      replace h := (if_pos c_19).symm.trans h
      refine lv_aload_n hx hb dX12_one_34 rfl (lv_at hl 2 rfl) ?_
      refine fg_17 hx hb hts hown hK hP dX12_one_35 ?_
      refine lv_aload_n hx hb dX12_one_38 rfl (lv_at hl 2 rfl) ?_
      refine fg_18 hx hb hts hown hK hP dX12_one_39 ?_
      obtain ⟨v_55, hv_55, h⟩ := ob h
      refine ag_17 hx hb hK hP hv_55 dX12_one_42 ?_
      refine lv_lstore_n (lv' := [(3, .long v_55), (2, .int 0), (1, .int v_16), (0, .ref h0)]) hx hb dX12_one_43 rfl hl (by decide) rfl (fun ls hl => ?_)
      refine lv_aload_n hx hb dX12_one_44 rfl (lv_at hl 3 rfl) ?_
      refine lv_dup hx hb dX12_one_45 rfl ?_
      refine fg_18 hx hb hts hown hK hP dX12_one_46 ?_
      refine lv_iconst (v := 1) hx hb dX12_one_49 (by decide) ?_
      refine lv_iadd hx hb dX12_one_50 ?_
      refine fp_18 hx hb hts hown hK hP hD hS dX12_one_51 (fun H locs hP hD hS => ?_)
      refine lv_aload_n hx hb dX12_one_54 rfl (lv_at hl 3 rfl) ?_
      refine lv_iconst (v := 1) hx hb dX12_one_55 (by decide) ?_
      refine lv_iconst (v := (-1)) hx hb dX12_one_56 (by decide) ?_
      refine lv_iconst (v := (-1)) hx hb dX12_one_57 (by decide) ?_
      refine lv_iconst (v := (-1)) hx hb dX12_one_58 (by decide) ?_
      refine lv_iload_n hx hb dX12_one_59 rfl (lv_at hl 2 rfl) ?_
      refine lv_iload_n hx hb dX12_one_60 rfl (lv_at hl 2 rfl) ?_
      obtain ⟨z_56, hv_56, h⟩ := ob h
      refine calI (As := [.int 1, .int (-1), .int (-1), .int (-1), .int v_16, .int v_16]) hx hb hml hts hown hK hP hD hS hA hZ (s_make l dC dI cB cI cJ cZ h0 a K V fz F (setF cs 18 ((cs.1 18) + 1)) 1 (-1) (-1) (-1) v_16 v_16 z_56.1 z_56.2 hv_56) (cw_make hts (fr := 1) (by show 1 + 1 ≤ n + 1 + 10; omega) (by show 8 + (8 + 11) + 60 * (1) ≤ 60 * (n + 1 + 10); omega)) rfl hl.1 (Nat.le_of_ble_eq_true rfl) ⟨Nat.zero_le _, Nat.zero_le _⟩ dX12_one_61 (fun H locs hP hD hS => ?_)
      refine lv_istore_n (lv' := [(2, .int z_56.2), (3, .long v_55), (1, .int v_16), (0, .ref h0)]) hx hb dX12_one_64 rfl hl (by decide) rfl (fun ls hl => ?_)
      refine lv_aload_n hx hb dX12_one_65 rfl (lv_at hl 3 rfl) ?_
      refine fg_28 hx hb hts hown hK hP dX12_one_66 ?_
      refine lv_iload_n hx hb dX12_one_69 rfl (lv_at hl 0 rfl) ?_
      refine lv_lload_n hx hb dX12_one_70 rfl (lv_at hl 1 rfl) ?_
      obtain ⟨cs_57, hv_57, h⟩ := ob h
      refine ap_28 hx hb hK hP hD hS hv_57 dX12_one_71 (fun H locs hP hD hS => ?_)
      refine lv_goto (tgt := 493) hx hb dX12_one_72 (by decide) ?_
      exact B_493 cs_57 v_16 z_56.2 h _ _ _ hP hD hS (lv_sub hl [3, 2, 0] rfl)
  · skip
    replace h := (if_pos c_17).symm.trans h
    refine lv_iconst (v := 0) hx hb dX12_one_19 (by decide) ?_
    obtain ⟨e1, e2⟩ := Prod.mk.inj (Option.some.inj h)
    rw [e1] at hP hD
    exact W.iret (v := 0) hx hb hr (fun t_ ht hW => ⟨⟨0, (), rfl, e2, by rw [ht]; exact hP, hD⟩, hS.F ht⟩) hS.2.2 dX12_one_20
set_option maxHeartbeats 4000000 in
set_option maxRecDepth 100000 in
theorem sb_aggregate (l : Launch) (dC : Nat → ClassId) (dI : Nat → Nat → Nat) (cB cI cJ cZ : ClassId) (h0 : Nat) (a : Nat → Nat) (K V : Nat → Nat) (fz : Value) (F : Nat) (n : Nat) (T : TG_expr) (hT_expr : ∀ (cs : RS) (cs9 : RS) (r9 : Int32), T.1 cs = some (cs9, r9) → okI l dC dI cB cI cJ cZ h0 a K V fz yX12_expr (wsOf yX12_expr cX12_expr 5 (some .int)) (n + 10) [.ref h0] cs cs9 r9) (hT_andExpr : ∀ (cs : RS) (cs9 : RS) (r9 : Int32), T.2.1 cs = some (cs9, r9) → okI l dC dI cB cI cJ cZ h0 a K V fz yX12_andExpr (wsOf yX12_andExpr cX12_andExpr 5 (some .int)) (n + 10) [.ref h0] cs cs9 r9) (hT_notExpr : ∀ (cs : RS) (cs9 : RS) (r9 : Int32), T.2.2.1 cs = some (cs9, r9) → okI l dC dI cB cI cJ cZ h0 a K V fz yX12_notExpr (wsOf yX12_notExpr cX12_notExpr 3 (some .int)) (n + 10) [.ref h0] cs cs9 r9) (hT_test : ∀ (cs : RS) (cs9 : RS) (r9 : Int32), T.2.2.2.1 cs = some (cs9, r9) → okI l dC dI cB cI cJ cZ h0 a K V fz yX12_test (wsOf yX12_test cX12_test 11 (some .int)) (n + 10) [.ref h0] cs cs9 r9) (hT_sum : ∀ (cs : RS) (cs9 : RS) (r9 : Int32), T.2.2.2.2.1 cs = some (cs9, r9) → okI l dC dI cB cI cJ cZ h0 a K V fz yX12_sum (wsOf yX12_sum cX12_sum 6 (some .int)) (n + 10) [.ref h0] cs cs9 r9) (hT_part : ∀ (cs : RS) (cs9 : RS) (r9 : Int32), T.2.2.2.2.2.1 cs = some (cs9, r9) → okI l dC dI cB cI cJ cZ h0 a K V fz yX12_part (wsOf yX12_part cX12_part 6 (some .int)) (n + 10) [.ref h0] cs cs9 r9) (hT_sign : ∀ (cs : RS) (cs9 : RS) (r9 : Int32), T.2.2.2.2.2.2.1 cs = some (cs9, r9) → okI l dC dI cB cI cJ cZ h0 a K V fz yX12_sign (wsOf yX12_sign cX12_sign 3 (some .int)) (n + 10) [.ref h0] cs cs9 r9) (hT_one : ∀ (cs : RS) (cs9 : RS) (r9 : Int32), T.2.2.2.2.2.2.2.1 cs = some (cs9, r9) → okI l dC dI cB cI cJ cZ h0 a K V fz yX12_one (wsOf yX12_one cX12_one 6 (some .int)) (n + 10) [.ref h0] cs cs9 r9) (hT_aggregate : ∀ (cs : RS) (x1 : Int32) (cs9 : RS) (r9 : Int32), T.2.2.2.2.2.2.2.2 cs x1 = some (cs9, r9) → okI l dC dI cB cI cJ cZ h0 a K V fz yX12_aggregate (wsOf yX12_aggregate cX12_aggregate 4 (some .int)) (n + 10) [.ref h0, .int x1] cs cs9 r9) (cs : RS) (x1 : Int32) (cs9 : RS) (r9 : Int32) (hf : b_aggregate F T cs x1 = some (cs9, r9)) : okI l dC dI cB cI cJ cZ h0 a K V fz yX12_aggregate (wsOf yX12_aggregate cX12_aggregate 4 (some .int)) (n + 1 + 10) [.ref h0, .int x1] cs cs9 r9 := by
  intro sz
  refine Met.ofW (cc := cX12_aggregate) (maxL := 4) (ret := (some .int)) (by decide) rfl ?_
  intro p e s m args below meth c s₁ B hml hv
  obtain ⟨rfl, hsz, hP, hK, hD0, hZ⟩ := hv
  have hx := B.exec
  have hb := B.bytes
  have hr := B.returns
  have hts := atoms_spec (ws := (wsOf yX12_aggregate cX12_aggregate 4 (some .int))) B.pre
  have hown : s.vm.findClass RX12 = some m.cls := findClass_of_methodNamed B.named
  have hlocks := B.notSynchronized
  subst hsz
  have hD := hD0.self (sz := s.heap.size)
  generalize hAe : va_A (mW cB cI cJ cZ h0 a cs) s.heap.size = A at hD hZ ⊢
  have hA : ∀ q : Nat, s.heap.size ≤ q → A q := fun q h => by rw [← hAe]; exact Or.inr h
  have hS : va_S A s.heap s.heap [] := va_S.rf
  have hl := lv_entry ([.ref h0, .int x1]) (n := 4) (Nat.le_of_ble_eq_true rfl)
  rw [lg_entry_eq]
  generalize (lg_sl ([.ref h0, .int x1]) ++ List.replicate (4 - (lg_sl ([.ref h0, .int x1])).length) Slot.unset).toArray = ls at hl ⊢
  have hl : lv_has ls 4 [(0, .ref h0), (1, .int x1)] := hl
  have B_14 : ∀ (cs1 : RS) , m_aggregate_b14 F T cs1 = some (cs9, r9) → ∀ (H : Heap) (locs : List Loc) (ls : Array Slot), va_P (dC, dI) vwCl (mW cB cI cJ cZ h0 a cs1) H → va_D A (mW cB cI cJ cZ h0 a cs1) → va_S A s.heap H locs → lv_has ls 4 [(0, .ref h0)] → W p l e (headSpec (wsOf yX12_aggregate cX12_aggregate 4 (some .int)) ({ frames := n + 1 + 10, cells := 0, slots := 0, locals := 60 * (n + 1 + 10) } : Room)).room s m ([.ref h0, .int x1] : List Value).toArray below meth c H locs 0 0 (MQ below (va_Qi (fun (x : Int32) (_ : Unit) => x = r9) (fun _ t_ => va_P (dC, dI) vwCl (mW cB cI cJ cZ h0 a cs9) t_.heap ∧ va_D A (mW cB cI cJ cZ h0 a cs9)) A) ([.ref h0, .int x1] : List Value).toArray s 0 0 A) (F0 m 14 ls []) := by
    intro cs1  h H locs ls hP hD hS hl
    unfold m_aggregate_b14 at h
    refine lv_aload_n hx hb dX12_aggregate_14 rfl (lv_at hl 0 rfl) ?_
    obtain ⟨cs_1, hv_1, h⟩ := ob h
    refine calV (As := []) hx hb hml hts hown hK hP hD hS hA hZ (s_wrong l dC dI cB cI cJ cZ h0 a K V fz F cs1  cs_1 hv_1) (cw_wrong hts (fr := 1) (by show 1 + 1 ≤ n + 1 + 10; omega) (by show 8 + (1 + 11) + 60 * (1) ≤ 60 * (n + 1 + 10); omega)) rfl hl.1 (Nat.le_of_ble_eq_true rfl) ⟨Nat.zero_le _, Nat.zero_le _⟩ dX12_aggregate_15 (fun H locs hP hD hS => ?_)
    refine lv_iconst (v := 0) hx hb dX12_aggregate_18 (by decide) ?_
    obtain ⟨e1, e2⟩ := Prod.mk.inj (Option.some.inj h)
    rw [e1] at hP hD
    exact W.iret (v := 0) hx hb hr (fun t_ ht hW => ⟨⟨0, (), rfl, e2, by rw [ht]; exact hP, hD⟩, hS.F ht⟩) hS.2.2 dX12_aggregate_19
  have B_195 : ∀ (cs1 : RS) (u1 : Int32) (u2 : Int32) (u3 : Int32), m_aggregate_b195 F T cs1 u1 u2 u3 = some (cs9, r9) → ∀ (H : Heap) (locs : List Loc) (ls : Array Slot), va_P (dC, dI) vwCl (mW cB cI cJ cZ h0 a cs1) H → va_D A (mW cB cI cJ cZ h0 a cs1) → va_S A s.heap H locs → lv_has ls 4 [(0, .ref h0), (1, .int u1), (2, .int u2), (3, .int u3)] → W p l e (headSpec (wsOf yX12_aggregate cX12_aggregate 4 (some .int)) ({ frames := n + 1 + 10, cells := 0, slots := 0, locals := 60 * (n + 1 + 10) } : Room)).room s m ([.ref h0, .int x1] : List Value).toArray below meth c H locs 0 0 (MQ below (va_Qi (fun (x : Int32) (_ : Unit) => x = r9) (fun _ t_ => va_P (dC, dI) vwCl (mW cB cI cJ cZ h0 a cs9) t_.heap ∧ va_D A (mW cB cI cJ cZ h0 a cs9)) A) ([.ref h0, .int x1] : List Value).toArray s 0 0 A) (F0 m 195 ls []) := by
    intro cs1 u1 u2 u3 h H locs ls hP hD hS hl
    unfold m_aggregate_b195 at h
    refine lv_aload_n hx hb dX12_aggregate_195 rfl (lv_at hl 0 rfl) ?_
    refine lv_bipush (v := 41) hx hb dX12_aggregate_196 (by decide) ?_
    obtain ⟨cs_2, hv_2, h⟩ := ob h
    refine calV (As := [.int 41]) hx hb hml hts hown hK hP hD hS hA hZ (s_needSign l dC dI cB cI cJ cZ h0 a K V fz F cs1 41 cs_2 hv_2) (cw_needSign hts (fr := 2) (by show 2 + 1 ≤ n + 1 + 10; omega) (by show 8 + (2 + 11) + 60 * (2) ≤ 60 * (n + 1 + 10); omega)) rfl hl.1 (Nat.le_of_ble_eq_true rfl) ⟨Nat.zero_le _, Nat.zero_le _⟩ dX12_aggregate_198 (fun H locs hP hD hS => ?_)
    refine lv_aload_n hx hb dX12_aggregate_201 rfl (lv_at hl 0 rfl) ?_
    refine lv_dup hx hb dX12_aggregate_202 rfl ?_
    refine fg_70 hx hb hts hown hK hP dX12_aggregate_203 ?_
    refine lv_iconst (v := 1) hx hb dX12_aggregate_206 (by decide) ?_
    refine lv_isub hx hb dX12_aggregate_207 ?_
    refine fp_70 hx hb hts hown hK hP hD hS dX12_aggregate_208 (fun H locs hP hD hS => ?_)
    refine lv_aload_n hx hb dX12_aggregate_211 rfl (lv_at hl 0 rfl) ?_
    refine lv_iload_n hx hb dX12_aggregate_212 rfl (lv_at hl 2 rfl) ?_
    refine lv_iload_n hx hb dX12_aggregate_213 rfl (lv_at hl 3 rfl) ?_
    refine lv_iconst (v := (-1)) hx hb dX12_aggregate_214 (by decide) ?_
    refine lv_iconst (v := (-1)) hx hb dX12_aggregate_215 (by decide) ?_
    refine lv_iload_n hx hb dX12_aggregate_216 rfl (lv_at hl 1 rfl) ?_
    refine lv_iload_n hx hb dX12_aggregate_217 rfl (lv_at hl 1 rfl) ?_
    obtain ⟨z_3, hv_3, h⟩ := ob h
    refine calI (As := [.int u2, .int u3, .int (-1), .int (-1), .int u1, .int u1]) hx hb hml hts hown hK hP hD hS hA hZ (s_make l dC dI cB cI cJ cZ h0 a K V fz F (setF cs_2 70 ((cs_2.1 70) - 1)) u2 u3 (-1) (-1) u1 u1 z_3.1 z_3.2 hv_3) (cw_make hts (fr := 1) (by show 1 + 1 ≤ n + 1 + 10; omega) (by show 8 + (8 + 11) + 60 * (1) ≤ 60 * (n + 1 + 10); omega)) rfl hl.1 (Nat.le_of_ble_eq_true rfl) ⟨Nat.zero_le _, Nat.zero_le _⟩ dX12_aggregate_218 (fun H locs hP hD hS => ?_)
    obtain ⟨e1, e2⟩ := Prod.mk.inj (Option.some.inj h)
    rw [e1] at hP hD
    exact W.iret (v := z_3.2) hx hb hr (fun t_ ht hW => ⟨⟨z_3.2, (), rfl, e2, by rw [ht]; exact hP, hD⟩, hS.F ht⟩) hS.2.2 dX12_aggregate_221
  have B_189 : ∀ (cs1 : RS) (u1 : Int32) (u2 : Int32) (y0 : Int32), m_aggregate_b189 F T cs1 u1 u2 y0 = some (cs9, r9) → ∀ (H : Heap) (locs : List Loc) (ls : Array Slot), va_P (dC, dI) vwCl (mW cB cI cJ cZ h0 a cs1) H → va_D A (mW cB cI cJ cZ h0 a cs1) → va_S A s.heap H locs → lv_has ls 4 [(0, .ref h0), (1, .int u1), (2, .int u2)] → W p l e (headSpec (wsOf yX12_aggregate cX12_aggregate 4 (some .int)) ({ frames := n + 1 + 10, cells := 0, slots := 0, locals := 60 * (n + 1 + 10) } : Room)).room s m ([.ref h0, .int x1] : List Value).toArray below meth c H locs 0 0 (MQ below (va_Qi (fun (x : Int32) (_ : Unit) => x = r9) (fun _ t_ => va_P (dC, dI) vwCl (mW cB cI cJ cZ h0 a cs9) t_.heap ∧ va_D A (mW cB cI cJ cZ h0 a cs9)) A) ([.ref h0, .int x1] : List Value).toArray s 0 0 A) (F0 m 189 ls [.int y0]) := by
    intro cs1 u1 u2 y0 h H locs ls hP hD hS hl
    unfold m_aggregate_b189 at h
    refine lv_istore_n (lv' := [(3, .int y0), (0, .ref h0), (1, .int u1), (2, .int u2)]) hx hb dX12_aggregate_189 rfl hl (by decide) rfl (fun ls hl => ?_)
    refine lv_aload_n hx hb dX12_aggregate_190 rfl (lv_at hl 1 rfl) ?_
    refine lv_iconst (v := 0) hx hb dX12_aggregate_191 (by decide) ?_
    refine fp_73 hx hb hts hown hK hP hD hS (Or.inl rfl) dX12_aggregate_192 (fun H locs hP hD hS => ?_)
    exact B_195 (setF cs1 73 0) u1 u2 y0 h _ _ _ hP hD hS (lv_sub hl [1, 2, 3, 0] rfl)
  have B_169 : ∀ (cs1 : RS) (u1 : Int32) (u2 : Int32), m_aggregate_b169 F T cs1 u1 u2 = some (cs9, r9) → ∀ (H : Heap) (locs : List Loc) (ls : Array Slot), va_P (dC, dI) vwCl (mW cB cI cJ cZ h0 a cs1) H → va_D A (mW cB cI cJ cZ h0 a cs1) → va_S A s.heap H locs → lv_has ls 4 [(0, .ref h0), (1, .int u1), (2, .int u2)] → W p l e (headSpec (wsOf yX12_aggregate cX12_aggregate 4 (some .int)) ({ frames := n + 1 + 10, cells := 0, slots := 0, locals := 60 * (n + 1 + 10) } : Room)).room s m ([.ref h0, .int x1] : List Value).toArray below meth c H locs 0 0 (MQ below (va_Qi (fun (x : Int32) (_ : Unit) => x = r9) (fun _ t_ => va_P (dC, dI) vwCl (mW cB cI cJ cZ h0 a cs9) t_.heap ∧ va_D A (mW cB cI cJ cZ h0 a cs9)) A) ([.ref h0, .int x1] : List Value).toArray s 0 0 A) (F0 m 169 ls []) := by
    intro cs1 u1 u2 h H locs ls hP hD hS hl
    unfold m_aggregate_b169 at h
    refine lv_aload_n hx hb dX12_aggregate_169 rfl (lv_at hl 0 rfl) ?_
    refine lv_iconst (v := 1) hx hb dX12_aggregate_170 (by decide) ?_
    refine fp_73 hx hb hts hown hK hP hD hS (Or.inr rfl) dX12_aggregate_171 (fun H locs hP hD hS => ?_)
    refine lv_aload_n hx hb dX12_aggregate_174 rfl (lv_at hl 0 rfl) ?_
    refine fg_21 hx hb hts hown hK hP dX12_aggregate_175 ?_
    refine lv_if_eq (tgt := 188) hx hb dX12_aggregate_178 (by decide) (fun c_4 => ?_) (fun c_4 => ?_)
    · skip
      replace h := (if_pos c_4).symm.trans h
      refine lv_iconst (v := 0) hx hb dX12_aggregate_188 (by decide) ?_
      exact B_189 (setF cs1 73 1) u1 u2 0 h _ _ _ hP hD hS (lv_sub hl [0, 1, 2] rfl)
    · skip
      replace h := (if_neg c_4).symm.trans h
      refine lv_aload_n hx hb dX12_aggregate_181 rfl (lv_at hl 0 rfl) ?_
      obtain ⟨z_5, hv_5, h⟩ := ob h
      refine calI (As := []) hx hb hml hts hown hK hP hD hS hA hZ (hT_expr (setF cs1 73 1)  z_5.1 z_5.2 hv_5) (cw_expr hts (fr := n + 10) (by show n + 10 + 1 ≤ n + 1 + 10; omega) (by show 8 + (5 + 11) + 60 * (n + 10) ≤ 60 * (n + 1 + 10); omega)) rfl hl.1 (Nat.le_of_ble_eq_true rfl) ⟨Nat.zero_le _, Nat.zero_le _⟩ dX12_aggregate_182 (fun H locs hP hD hS => ?_)
      refine lv_goto (tgt := 189) hx hb dX12_aggregate_185 (by decide) ?_
      exact B_189 z_5.1 u1 u2 z_5.2 h _ _ _ hP hD hS (lv_sub hl [0, 1, 2] rfl)
  have B_129 : ∀ (cs1 : RS) (u1 : Int32) (y0 : Int32), m_aggregate_b129 F T cs1 u1 y0 = some (cs9, r9) → ∀ (H : Heap) (locs : List Loc) (ls : Array Slot), va_P (dC, dI) vwCl (mW cB cI cJ cZ h0 a cs1) H → va_D A (mW cB cI cJ cZ h0 a cs1) → va_S A s.heap H locs → lv_has ls 4 [(0, .ref h0), (1, .int u1)] → W p l e (headSpec (wsOf yX12_aggregate cX12_aggregate 4 (some .int)) ({ frames := n + 1 + 10, cells := 0, slots := 0, locals := 60 * (n + 1 + 10) } : Room)).room s m ([.ref h0, .int x1] : List Value).toArray below meth c H locs 0 0 (MQ below (va_Qi (fun (x : Int32) (_ : Unit) => x = r9) (fun _ t_ => va_P (dC, dI) vwCl (mW cB cI cJ cZ h0 a cs9) t_.heap ∧ va_D A (mW cB cI cJ cZ h0 a cs9)) A) ([.ref h0, .int x1] : List Value).toArray s 0 0 A) (F0 m 129 ls [.int y0]) := by
    intro cs1 u1 y0 h H locs ls hP hD hS hl
    unfold m_aggregate_b129 at h
    refine lv_istore_n (lv' := [(2, .int y0), (0, .ref h0), (1, .int u1)]) hx hb dX12_aggregate_129 rfl hl (by decide) rfl (fun ls hl => ?_)
    refine lv_aload_n hx hb dX12_aggregate_130 rfl (lv_at hl 1 rfl) ?_
    refine lv_dup hx hb dX12_aggregate_131 rfl ?_
    refine fg_18 hx hb hts hown hK hP dX12_aggregate_132 ?_
    refine lv_iconst (v := 1) hx hb dX12_aggregate_135 (by decide) ?_
    refine lv_iadd hx hb dX12_aggregate_136 ?_
    refine fp_18 hx hb hts hown hK hP hD hS dX12_aggregate_137 (fun H locs hP hD hS => ?_)
    refine lv_aload_n hx hb dX12_aggregate_140 rfl (lv_at hl 1 rfl) ?_
    refine lv_bipush (v := 40) hx hb dX12_aggregate_141 (by decide) ?_
    obtain ⟨cs_6, hv_6, h⟩ := ob h
    refine calV (As := [.int 40]) hx hb hml hts hown hK hP hD hS hA hZ (s_needSign l dC dI cB cI cJ cZ h0 a K V fz F (setF cs1 18 ((cs1.1 18) + 1)) 40 cs_6 hv_6) (cw_needSign hts (fr := 2) (by show 2 + 1 ≤ n + 1 + 10; omega) (by show 8 + (2 + 11) + 60 * (2) ≤ 60 * (n + 1 + 10); omega)) rfl hl.1 (Nat.le_of_ble_eq_true rfl) ⟨Nat.zero_le _, Nat.zero_le _⟩ dX12_aggregate_143 (fun H locs hP hD hS => ?_)
    refine lv_iconst (v := (-1)) hx hb dX12_aggregate_146 (by decide) ?_
    refine lv_istore_n (lv' := [(3, .int (-1)), (2, .int y0), (0, .ref h0), (1, .int u1)]) hx hb dX12_aggregate_147 rfl hl (by decide) rfl (fun ls hl => ?_)
    refine lv_iload_n hx hb dX12_aggregate_148 rfl (lv_at hl 1 rfl) ?_
    refine lv_bipush (v := 21) hx hb dX12_aggregate_149 (by decide) ?_
    refine lv_icmp_ne (tgt := 169) hx hb dX12_aggregate_151 (by decide) (fun c_7 => ?_) (fun c_7 => ?_)
    · skip
      replace h := (if_neg c_7).symm.trans h
      exact B_169 cs_6 u1 y0 h _ _ _ hP hD hS (lv_sub hl [2, 3, 1] rfl)
    · skip
      replace h := (if_pos c_7).symm.trans h
      refine lv_aload_n hx hb dX12_aggregate_154 rfl (lv_at hl 2 rfl) ?_
      refine lv_bipush (v := 42) hx hb dX12_aggregate_155 (by decide) ?_
      obtain ⟨z_8, hv_8, h⟩ := ob h
      refine calI (As := [.int 42]) hx hb hml hts hown hK hP hD hS hA hZ (s_takeSign l dC dI cB cI cJ cZ h0 a K V fz F cs_6 42 z_8.1 z_8.2 hv_8) (cw_takeSign hts (fr := 1) (by show 1 + 1 ≤ n + 1 + 10; omega) (by show 8 + (3 + 11) + 60 * (1) ≤ 60 * (n + 1 + 10); omega)) rfl hl.1 (Nat.le_of_ble_eq_true rfl) ⟨Nat.zero_le _, Nat.zero_le _⟩ dX12_aggregate_157 (fun H locs hP hD hS => ?_)
      refine lv_if_eq (tgt := 169) hx hb dX12_aggregate_160 (by decide) (fun c_9 => ?_) (fun c_9 => ?_)
      · skip
        replace h := (if_pos c_9).symm.trans h
        exact B_169 z_8.1 u1 y0 h _ _ _ hP hD hS (lv_sub hl [2, 3, 1] rfl)
      · skip
        replace h := (if_neg c_9).symm.trans h
        refine lv_bipush (v := 20) hx hb dX12_aggregate_163 (by decide) ?_
        refine lv_istore_n (lv' := [(2, .int 20), (3, .int (-1)), (0, .ref h0), (1, .int u1)]) hx hb dX12_aggregate_165 rfl hl (by decide) rfl (fun ls hl => ?_)
        refine lv_goto (tgt := 195) hx hb dX12_aggregate_166 (by decide) ?_
        exact B_195 z_8.1 u1 20 (-1) h _ _ _ hP hD hS (lv_sub hl [2, 3, 0, 1] rfl)
  have B_77 : ∀ (cs1 : RS) (u1 : Int32), m_aggregate_b77 F T cs1 u1 = some (cs9, r9) → ∀ (H : Heap) (locs : List Loc) (ls : Array Slot), va_P (dC, dI) vwCl (mW cB cI cJ cZ h0 a cs1) H → va_D A (mW cB cI cJ cZ h0 a cs1) → va_S A s.heap H locs → lv_has ls 4 [(0, .ref h0), (1, .int u1)] → W p l e (headSpec (wsOf yX12_aggregate cX12_aggregate 4 (some .int)) ({ frames := n + 1 + 10, cells := 0, slots := 0, locals := 60 * (n + 1 + 10) } : Room)).room s m ([.ref h0, .int x1] : List Value).toArray below meth c H locs 0 0 (MQ below (va_Qi (fun (x : Int32) (_ : Unit) => x = r9) (fun _ t_ => va_P (dC, dI) vwCl (mW cB cI cJ cZ h0 a cs9) t_.heap ∧ va_D A (mW cB cI cJ cZ h0 a cs9)) A) ([.ref h0, .int x1] : List Value).toArray s 0 0 A) (F0 m 77 ls []) := by
    intro cs1 u1 h H locs ls hP hD hS hl
    unfold m_aggregate_b77 at h
    refine lv_aload_n hx hb dX12_aggregate_77 rfl (lv_at hl 0 rfl) ?_
    refine lv_iload_n hx hb dX12_aggregate_78 rfl (lv_at hl 1 rfl) ?_
    obtain ⟨cs_10, hv_10, h⟩ := ob h
    refine calV (As := [.int u1]) hx hb hml hts hown hK hP hD hS hA hZ (s_deeper l dC dI cB cI cJ cZ h0 a K V fz F cs1 u1 cs_10 hv_10) (cw_deeper hts (fr := 1) (by show 1 + 1 ≤ n + 1 + 10; omega) (by show 8 + (2 + 11) + 60 * (1) ≤ 60 * (n + 1 + 10); omega)) rfl hl.1 (Nat.le_of_ble_eq_true rfl) ⟨Nat.zero_le _, Nat.zero_le _⟩ dX12_aggregate_79 (fun H locs hP hD hS => ?_)
    refine lv_aload_n hx hb dX12_aggregate_82 rfl (lv_at hl 0 rfl) ?_
    refine va_ldcSW (own := RX12) (index := 350) (tx := soT 5) (q := K 5) hx hb hown (hZ.ref 5 (by decide)) dX12_aggregate_83 ?_
    obtain ⟨v_11, hv_11, h⟩ := ob h
    refine calI (As := [.ref (K 5)]) hx hb hml hts hown hK hP hD hS hA hZ (s_isWord l dC dI cB cI cJ cZ h0 a K V fz F cs_10 5 (by decide) v_11 hv_11) (cw_isWord hts (fr := 7) (by show 7 + 1 ≤ n + 1 + 10; omega) (by show 8 + (2 + 11) + 60 * (7) ≤ 60 * (n + 1 + 10); omega)) rfl hl.1 (Nat.le_of_ble_eq_true rfl) ⟨Nat.zero_le _, Nat.zero_le _⟩ dX12_aggregate_86 (fun H locs hP hD hS => ?_)
    refine lv_if_eq (tgt := 97) hx hb dX12_aggregate_89 (by decide) (fun c_12 => ?_) (fun c_12 => ?_)
    · skip
      replace h := (if_pos c_12).symm.trans h
      refine lv_aload_n hx hb dX12_aggregate_97 rfl (lv_at hl 0 rfl) ?_
      refine va_ldcSW (own := RX12) (index := 352) (tx := soT 6) (q := K 6) hx hb hown (hZ.ref 6 (by decide)) dX12_aggregate_98 ?_
      obtain ⟨v_13, hv_13, h⟩ := ob h
      refine calI (As := [.ref (K 6)]) hx hb hml hts hown hK hP hD hS hA hZ (s_isWord l dC dI cB cI cJ cZ h0 a K V fz F cs_10 6 (by decide) v_13 hv_13) (cw_isWord hts (fr := 7) (by show 7 + 1 ≤ n + 1 + 10; omega) (by show 8 + (2 + 11) + 60 * (7) ≤ 60 * (n + 1 + 10); omega)) rfl hl.1 (Nat.le_of_ble_eq_true rfl) ⟨Nat.zero_le _, Nat.zero_le _⟩ dX12_aggregate_101 (fun H locs hP hD hS => ?_)
      refine lv_if_eq (tgt := 112) hx hb dX12_aggregate_104 (by decide) (fun c_14 => ?_) (fun c_14 => ?_)
      · skip
        replace h := (if_pos c_14).symm.trans h
        refine lv_aload_n hx hb dX12_aggregate_112 rfl (lv_at hl 0 rfl) ?_
        refine va_ldcSW (own := RX12) (index := 354) (tx := soT 7) (q := K 7) hx hb hown (hZ.ref 7 (by decide)) dX12_aggregate_113 ?_
        obtain ⟨v_15, hv_15, h⟩ := ob h
        refine calI (As := [.ref (K 7)]) hx hb hml hts hown hK hP hD hS hA hZ (s_isWord l dC dI cB cI cJ cZ h0 a K V fz F cs_10 7 (by decide) v_15 hv_15) (cw_isWord hts (fr := 7) (by show 7 + 1 ≤ n + 1 + 10; omega) (by show 8 + (2 + 11) + 60 * (7) ≤ 60 * (n + 1 + 10); omega)) rfl hl.1 (Nat.le_of_ble_eq_true rfl) ⟨Nat.zero_le _, Nat.zero_le _⟩ dX12_aggregate_116 (fun H locs hP hD hS => ?_)
        refine lv_if_eq (tgt := 127) hx hb dX12_aggregate_119 (by decide) (fun c_16 => ?_) (fun c_16 => ?_)
        · skip
          replace h := (if_pos c_16).symm.trans h
          refine lv_bipush (v := 24) hx hb dX12_aggregate_127 (by decide) ?_
          exact B_129 cs_10 u1 24 h _ _ _ hP hD hS (lv_sub hl [0, 1] rfl)
        · skip
          replace h := (if_neg c_16).symm.trans h
          refine lv_bipush (v := 23) hx hb dX12_aggregate_122 (by decide) ?_
          refine lv_goto (tgt := 129) hx hb dX12_aggregate_124 (by decide) ?_
          exact B_129 cs_10 u1 23 h _ _ _ hP hD hS (lv_sub hl [0, 1] rfl)
      · skip
        replace h := (if_neg c_14).symm.trans h
        refine lv_bipush (v := 22) hx hb dX12_aggregate_107 (by decide) ?_
        refine lv_goto (tgt := 129) hx hb dX12_aggregate_109 (by decide) ?_
        exact B_129 cs_10 u1 22 h _ _ _ hP hD hS (lv_sub hl [0, 1] rfl)
    · skip
      replace h := (if_neg c_12).symm.trans h
      refine lv_bipush (v := 21) hx hb dX12_aggregate_92 (by decide) ?_
      refine lv_goto (tgt := 129) hx hb dX12_aggregate_94 (by decide) ?_
      exact B_129 cs_10 u1 21 h _ _ _ hP hD hS (lv_sub hl [0, 1] rfl)
  have B_54 : ∀ (cs1 : RS) (u1 : Int32), m_aggregate_b54 F T cs1 u1 = some (cs9, r9) → ∀ (H : Heap) (locs : List Loc) (ls : Array Slot), va_P (dC, dI) vwCl (mW cB cI cJ cZ h0 a cs1) H → va_D A (mW cB cI cJ cZ h0 a cs1) → va_S A s.heap H locs → lv_has ls 4 [(0, .ref h0), (1, .int u1)] → W p l e (headSpec (wsOf yX12_aggregate cX12_aggregate 4 (some .int)) ({ frames := n + 1 + 10, cells := 0, slots := 0, locals := 60 * (n + 1 + 10) } : Room)).room s m ([.ref h0, .int x1] : List Value).toArray below meth c H locs 0 0 (MQ below (va_Qi (fun (x : Int32) (_ : Unit) => x = r9) (fun _ t_ => va_P (dC, dI) vwCl (mW cB cI cJ cZ h0 a cs9) t_.heap ∧ va_D A (mW cB cI cJ cZ h0 a cs9)) A) ([.ref h0, .int x1] : List Value).toArray s 0 0 A) (F0 m 54 ls []) := by
    intro cs1 u1 h H locs ls hP hD hS hl
    unfold m_aggregate_b54 at h
    refine lv_aload_n hx hb dX12_aggregate_54 rfl (lv_at hl 0 rfl) ?_
    refine fg_43 hx hb hts hown hK hP dX12_aggregate_55 ?_
    refine lv_aload_n hx hb dX12_aggregate_58 rfl (lv_at hl 0 rfl) ?_
    refine fg_71 hx hb hts hown hK hP dX12_aggregate_59 ?_
    obtain ⟨v_17, hv_17, h⟩ := ob h
    refine ag_43 hx hb hK hP hv_17 dX12_aggregate_62 ?_
    refine lv_iconst (v := (-1)) hx hb dX12_aggregate_63 (by decide) ?_
    refine lv_icmp_ne (tgt := 77) hx hb dX12_aggregate_64 (by decide) (fun c_18 => ?_) (fun c_18 => ?_)
    · skip
      replace h := (if_neg c_18).symm.trans h
      exact B_77 cs1 u1 h _ _ _ hP hD hS (lv_sub hl [0, 1] rfl)
    · skip
      replace h := (if_pos c_18).symm.trans h
      refine lv_aload_n hx hb dX12_aggregate_67 rfl (lv_at hl 0 rfl) ?_
      refine fg_43 hx hb hts hown hK hP dX12_aggregate_68 ?_
      refine lv_aload_n hx hb dX12_aggregate_71 rfl (lv_at hl 0 rfl) ?_
      refine fg_71 hx hb hts hown hK hP dX12_aggregate_72 ?_
      refine lv_iload_n hx hb dX12_aggregate_75 rfl (lv_at hl 1 rfl) ?_
      obtain ⟨cs_19, hv_19, h⟩ := ob h
      refine ap_43 hx hb hK hP hD hS hv_19 dX12_aggregate_76 (fun H locs hP hD hS => ?_)
      exact B_77 cs_19 u1 h _ _ _ hP hD hS (lv_sub hl [0, 1] rfl)
  have h := hf
  unfold b_aggregate at h
  refine lv_aload_n hx hb dX12_aggregate_0 rfl (lv_at hl 0 rfl) ?_
  refine fg_72 hx hb hts hown hK hP dX12_aggregate_1 ?_
  refine lv_if_eq (tgt := 14) hx hb dX12_aggregate_4 (by decide) (fun c_20 => ?_) (fun c_20 => ?_)
  · skip
    replace h := (if_pos c_20).symm.trans h
    exact B_14 cs h _ _ _ hP hD hS (lv_sub hl [0] rfl)
  · skip
    replace h := (if_neg c_20).symm.trans h
    refine lv_aload_n hx hb dX12_aggregate_7 rfl (lv_at hl 0 rfl) ?_
    refine fg_73 hx hb hts hown hK hP dX12_aggregate_8 ?_
    refine lv_if_eq (tgt := 20) hx hb dX12_aggregate_11 (by decide) (fun c_21 => ?_) (fun c_21 => ?_)
    · skip
      replace h := (if_pos c_21).symm.trans h
      refine lv_aload_n hx hb dX12_aggregate_20 rfl (lv_at hl 0 rfl) ?_
      refine fg_42 hx hb hts hown hK hP dX12_aggregate_21 ?_
      refine lv_aload_n hx hb dX12_aggregate_24 rfl (lv_at hl 0 rfl) ?_
      refine fg_71 hx hb hts hown hK hP dX12_aggregate_25 ?_
      refine lv_dup2_11 hx hb dX12_aggregate_28 rfl rfl ?_
      obtain ⟨v_22, hv_22, h⟩ := ob h
      refine ag_42 hx hb hK hP hv_22 dX12_aggregate_29 ?_
      refine lv_iconst (v := 1) hx hb dX12_aggregate_30 (by decide) ?_
      refine lv_iadd hx hb dX12_aggregate_31 ?_
      obtain ⟨cs_23, hv_23, h⟩ := ob h
      refine ap_42 hx hb hK hP hD hS hv_23 dX12_aggregate_32 (fun H locs hP hD hS => ?_)
      refine lv_aload_n hx hb dX12_aggregate_33 rfl (lv_at hl 0 rfl) ?_
      refine fg_42 hx hb hts hown hK hP dX12_aggregate_34 ?_
      refine lv_aload_n hx hb dX12_aggregate_37 rfl (lv_at hl 0 rfl) ?_
      refine fg_71 hx hb hts hown hK hP dX12_aggregate_38 ?_
      obtain ⟨v_24, hv_24, h⟩ := ob h
      refine ag_42 hx hb hK hP hv_24 dX12_aggregate_41 ?_
      refine lv_bipush (v := 13) hx hb dX12_aggregate_42 (by decide) ?_
      refine lv_icmp_ne (tgt := 54) hx hb dX12_aggregate_44 (by decide) (fun c_25 => ?_) (fun c_25 => ?_)
      · skip
        replace h := (if_neg c_25).symm.trans h
        exact B_54 cs_23 x1 h _ _ _ hP hD hS (lv_sub hl [0, 1] rfl)
      · skip
        replace h := (if_pos c_25).symm.trans h
        refine lv_aload_n hx hb dX12_aggregate_47 rfl (lv_at hl 0 rfl) ?_
        refine lv_bipush (v := 7) hx hb dX12_aggregate_48 (by decide) ?_
        refine lv_iload_n hx hb dX12_aggregate_50 rfl (lv_at hl 1 rfl) ?_
        obtain ⟨cs_26, hv_26, h⟩ := ob h
        refine calV (As := [.int 7, .int x1]) hx hb hml hts hown hK hP hD hS hA hZ (s_tell l dC dI cB cI cJ cZ h0 a K V fz F cs_23 7 x1 cs_26 hv_26) (cw_tell hts (fr := 0) (by show 0 + 1 ≤ n + 1 + 10; omega) (by show 8 + (3 + 11) + 60 * (0) ≤ 60 * (n + 1 + 10); omega)) rfl hl.1 (Nat.le_of_ble_eq_true rfl) ⟨Nat.zero_le _, Nat.zero_le _⟩ dX12_aggregate_51 (fun H locs hP hD hS => ?_)
        exact B_54 cs_26 x1 h _ _ _ hP hD hS (lv_sub hl [0, 1] rfl)
    · skip
      replace h := (if_neg c_21).symm.trans h
      exact B_14 cs h _ _ _ hP hD hS (lv_sub hl [0] rfl)
theorem sg_expr (l : Launch) (dC : Nat → ClassId) (dI : Nat → Nat → Nat) (cB cI cJ cZ : ClassId) (h0 : Nat) (a : Nat → Nat) (K V : Nat → Nat) (fz : Value) (F : Nat) : ∀ n : Nat, (∀ (cs : RS) (cs9 : RS) (r9 : Int32), (tab_expr F n).1 cs = some (cs9, r9) → okI l dC dI cB cI cJ cZ h0 a K V fz yX12_expr (wsOf yX12_expr cX12_expr 5 (some .int)) (n + 10) [.ref h0] cs cs9 r9) ∧ (∀ (cs : RS) (cs9 : RS) (r9 : Int32), (tab_expr F n).2.1 cs = some (cs9, r9) → okI l dC dI cB cI cJ cZ h0 a K V fz yX12_andExpr (wsOf yX12_andExpr cX12_andExpr 5 (some .int)) (n + 10) [.ref h0] cs cs9 r9) ∧ (∀ (cs : RS) (cs9 : RS) (r9 : Int32), (tab_expr F n).2.2.1 cs = some (cs9, r9) → okI l dC dI cB cI cJ cZ h0 a K V fz yX12_notExpr (wsOf yX12_notExpr cX12_notExpr 3 (some .int)) (n + 10) [.ref h0] cs cs9 r9) ∧ (∀ (cs : RS) (cs9 : RS) (r9 : Int32), (tab_expr F n).2.2.2.1 cs = some (cs9, r9) → okI l dC dI cB cI cJ cZ h0 a K V fz yX12_test (wsOf yX12_test cX12_test 11 (some .int)) (n + 10) [.ref h0] cs cs9 r9) ∧ (∀ (cs : RS) (cs9 : RS) (r9 : Int32), (tab_expr F n).2.2.2.2.1 cs = some (cs9, r9) → okI l dC dI cB cI cJ cZ h0 a K V fz yX12_sum (wsOf yX12_sum cX12_sum 6 (some .int)) (n + 10) [.ref h0] cs cs9 r9) ∧ (∀ (cs : RS) (cs9 : RS) (r9 : Int32), (tab_expr F n).2.2.2.2.2.1 cs = some (cs9, r9) → okI l dC dI cB cI cJ cZ h0 a K V fz yX12_part (wsOf yX12_part cX12_part 6 (some .int)) (n + 10) [.ref h0] cs cs9 r9) ∧ (∀ (cs : RS) (cs9 : RS) (r9 : Int32), (tab_expr F n).2.2.2.2.2.2.1 cs = some (cs9, r9) → okI l dC dI cB cI cJ cZ h0 a K V fz yX12_sign (wsOf yX12_sign cX12_sign 3 (some .int)) (n + 10) [.ref h0] cs cs9 r9) ∧ (∀ (cs : RS) (cs9 : RS) (r9 : Int32), (tab_expr F n).2.2.2.2.2.2.2.1 cs = some (cs9, r9) → okI l dC dI cB cI cJ cZ h0 a K V fz yX12_one (wsOf yX12_one cX12_one 6 (some .int)) (n + 10) [.ref h0] cs cs9 r9) ∧ (∀ (cs : RS) (x1 : Int32) (cs9 : RS) (r9 : Int32), (tab_expr F n).2.2.2.2.2.2.2.2 cs x1 = some (cs9, r9) → okI l dC dI cB cI cJ cZ h0 a K V fz yX12_aggregate (wsOf yX12_aggregate cX12_aggregate 4 (some .int)) (n + 10) [.ref h0, .int x1] cs cs9 r9) := by
  intro n
  induction n with
  | zero => exact ⟨fun _ _ _ h => (by cases (show (none : Option (RS × Int32)) = _ from h)), fun _ _ _ h => (by cases (show (none : Option (RS × Int32)) = _ from h)), fun _ _ _ h => (by cases (show (none : Option (RS × Int32)) = _ from h)), fun _ _ _ h => (by cases (show (none : Option (RS × Int32)) = _ from h)), fun _ _ _ h => (by cases (show (none : Option (RS × Int32)) = _ from h)), fun _ _ _ h => (by cases (show (none : Option (RS × Int32)) = _ from h)), fun _ _ _ h => (by cases (show (none : Option (RS × Int32)) = _ from h)), fun _ _ _ h => (by cases (show (none : Option (RS × Int32)) = _ from h)), fun _ _ _ _ h => (by cases (show (none : Option (RS × Int32)) = _ from h))⟩
  | succ n ih =>
    obtain ⟨hh0, hh1, hh2, hh3, hh4, hh5, hh6, hh7, hh8⟩ := ih
    exact ⟨fun cs w0 w1 hf => sb_expr l dC dI cB cI cJ cZ h0 a K V fz F n (tab_expr F n) hh0 hh1 hh2 hh3 hh4 hh5 hh6 hh7 hh8 cs  w0 w1 hf, fun cs w0 w1 hf => sb_andExpr l dC dI cB cI cJ cZ h0 a K V fz F n (tab_expr F n) hh0 hh1 hh2 hh3 hh4 hh5 hh6 hh7 hh8 cs  w0 w1 hf, fun cs w0 w1 hf => sb_notExpr l dC dI cB cI cJ cZ h0 a K V fz F n (tab_expr F n) hh0 hh1 hh2 hh3 hh4 hh5 hh6 hh7 hh8 cs  w0 w1 hf, fun cs w0 w1 hf => sb_test l dC dI cB cI cJ cZ h0 a K V fz F n (tab_expr F n) hh0 hh1 hh2 hh3 hh4 hh5 hh6 hh7 hh8 cs  w0 w1 hf, fun cs w0 w1 hf => sb_sum l dC dI cB cI cJ cZ h0 a K V fz F n (tab_expr F n) hh0 hh1 hh2 hh3 hh4 hh5 hh6 hh7 hh8 cs  w0 w1 hf, fun cs w0 w1 hf => sb_part l dC dI cB cI cJ cZ h0 a K V fz F n (tab_expr F n) hh0 hh1 hh2 hh3 hh4 hh5 hh6 hh7 hh8 cs  w0 w1 hf, fun cs w0 w1 hf => sb_sign l dC dI cB cI cJ cZ h0 a K V fz F n (tab_expr F n) hh0 hh1 hh2 hh3 hh4 hh5 hh6 hh7 hh8 cs  w0 w1 hf, fun cs w0 w1 hf => sb_one l dC dI cB cI cJ cZ h0 a K V fz F n (tab_expr F n) hh0 hh1 hh2 hh3 hh4 hh5 hh6 hh7 hh8 cs  w0 w1 hf, fun cs w0 w1 w2 hf => sb_aggregate l dC dI cB cI cJ cZ h0 a K V fz F n (tab_expr F n) hh0 hh1 hh2 hh3 hh4 hh5 hh6 hh7 hh8 cs w0 w1 w2 hf⟩
def m_expr (F n : Nat) (cs : RS) : Option (RS × Int32) := (tab_expr F n).1 cs
theorem s_expr (l : Launch) (dC : Nat → ClassId) (dI : Nat → Nat → Nat) (cB cI cJ cZ : ClassId) (h0 : Nat) (a : Nat → Nat) (K V : Nat → Nat) (fz : Value) (F n : Nat) (cs : RS) (cs9 : RS) (r9 : Int32) (hf : m_expr F n cs = some (cs9, r9)) : okI l dC dI cB cI cJ cZ h0 a K V fz yX12_expr (wsOf yX12_expr cX12_expr 5 (some .int)) (n + 10) [.ref h0] cs cs9 r9 := (sg_expr l dC dI cB cI cJ cZ h0 a K V fz F n).1 cs cs9 r9 hf
def m_andExpr (F n : Nat) (cs : RS) : Option (RS × Int32) := (tab_expr F n).2.1 cs
theorem s_andExpr (l : Launch) (dC : Nat → ClassId) (dI : Nat → Nat → Nat) (cB cI cJ cZ : ClassId) (h0 : Nat) (a : Nat → Nat) (K V : Nat → Nat) (fz : Value) (F n : Nat) (cs : RS) (cs9 : RS) (r9 : Int32) (hf : m_andExpr F n cs = some (cs9, r9)) : okI l dC dI cB cI cJ cZ h0 a K V fz yX12_andExpr (wsOf yX12_andExpr cX12_andExpr 5 (some .int)) (n + 10) [.ref h0] cs cs9 r9 := (sg_expr l dC dI cB cI cJ cZ h0 a K V fz F n).2.1 cs cs9 r9 hf
def m_notExpr (F n : Nat) (cs : RS) : Option (RS × Int32) := (tab_expr F n).2.2.1 cs
theorem s_notExpr (l : Launch) (dC : Nat → ClassId) (dI : Nat → Nat → Nat) (cB cI cJ cZ : ClassId) (h0 : Nat) (a : Nat → Nat) (K V : Nat → Nat) (fz : Value) (F n : Nat) (cs : RS) (cs9 : RS) (r9 : Int32) (hf : m_notExpr F n cs = some (cs9, r9)) : okI l dC dI cB cI cJ cZ h0 a K V fz yX12_notExpr (wsOf yX12_notExpr cX12_notExpr 3 (some .int)) (n + 10) [.ref h0] cs cs9 r9 := (sg_expr l dC dI cB cI cJ cZ h0 a K V fz F n).2.2.1 cs cs9 r9 hf
def m_test (F n : Nat) (cs : RS) : Option (RS × Int32) := (tab_expr F n).2.2.2.1 cs
theorem s_test (l : Launch) (dC : Nat → ClassId) (dI : Nat → Nat → Nat) (cB cI cJ cZ : ClassId) (h0 : Nat) (a : Nat → Nat) (K V : Nat → Nat) (fz : Value) (F n : Nat) (cs : RS) (cs9 : RS) (r9 : Int32) (hf : m_test F n cs = some (cs9, r9)) : okI l dC dI cB cI cJ cZ h0 a K V fz yX12_test (wsOf yX12_test cX12_test 11 (some .int)) (n + 10) [.ref h0] cs cs9 r9 := (sg_expr l dC dI cB cI cJ cZ h0 a K V fz F n).2.2.2.1 cs cs9 r9 hf
def m_sum (F n : Nat) (cs : RS) : Option (RS × Int32) := (tab_expr F n).2.2.2.2.1 cs
theorem s_sum (l : Launch) (dC : Nat → ClassId) (dI : Nat → Nat → Nat) (cB cI cJ cZ : ClassId) (h0 : Nat) (a : Nat → Nat) (K V : Nat → Nat) (fz : Value) (F n : Nat) (cs : RS) (cs9 : RS) (r9 : Int32) (hf : m_sum F n cs = some (cs9, r9)) : okI l dC dI cB cI cJ cZ h0 a K V fz yX12_sum (wsOf yX12_sum cX12_sum 6 (some .int)) (n + 10) [.ref h0] cs cs9 r9 := (sg_expr l dC dI cB cI cJ cZ h0 a K V fz F n).2.2.2.2.1 cs cs9 r9 hf
def m_part (F n : Nat) (cs : RS) : Option (RS × Int32) := (tab_expr F n).2.2.2.2.2.1 cs
theorem s_part (l : Launch) (dC : Nat → ClassId) (dI : Nat → Nat → Nat) (cB cI cJ cZ : ClassId) (h0 : Nat) (a : Nat → Nat) (K V : Nat → Nat) (fz : Value) (F n : Nat) (cs : RS) (cs9 : RS) (r9 : Int32) (hf : m_part F n cs = some (cs9, r9)) : okI l dC dI cB cI cJ cZ h0 a K V fz yX12_part (wsOf yX12_part cX12_part 6 (some .int)) (n + 10) [.ref h0] cs cs9 r9 := (sg_expr l dC dI cB cI cJ cZ h0 a K V fz F n).2.2.2.2.2.1 cs cs9 r9 hf
def m_sign (F n : Nat) (cs : RS) : Option (RS × Int32) := (tab_expr F n).2.2.2.2.2.2.1 cs
theorem s_sign (l : Launch) (dC : Nat → ClassId) (dI : Nat → Nat → Nat) (cB cI cJ cZ : ClassId) (h0 : Nat) (a : Nat → Nat) (K V : Nat → Nat) (fz : Value) (F n : Nat) (cs : RS) (cs9 : RS) (r9 : Int32) (hf : m_sign F n cs = some (cs9, r9)) : okI l dC dI cB cI cJ cZ h0 a K V fz yX12_sign (wsOf yX12_sign cX12_sign 3 (some .int)) (n + 10) [.ref h0] cs cs9 r9 := (sg_expr l dC dI cB cI cJ cZ h0 a K V fz F n).2.2.2.2.2.2.1 cs cs9 r9 hf
def m_one (F n : Nat) (cs : RS) : Option (RS × Int32) := (tab_expr F n).2.2.2.2.2.2.2.1 cs
theorem s_one (l : Launch) (dC : Nat → ClassId) (dI : Nat → Nat → Nat) (cB cI cJ cZ : ClassId) (h0 : Nat) (a : Nat → Nat) (K V : Nat → Nat) (fz : Value) (F n : Nat) (cs : RS) (cs9 : RS) (r9 : Int32) (hf : m_one F n cs = some (cs9, r9)) : okI l dC dI cB cI cJ cZ h0 a K V fz yX12_one (wsOf yX12_one cX12_one 6 (some .int)) (n + 10) [.ref h0] cs cs9 r9 := (sg_expr l dC dI cB cI cJ cZ h0 a K V fz F n).2.2.2.2.2.2.2.1 cs cs9 r9 hf
def m_aggregate (F n : Nat) (cs : RS) (x1 : Int32) : Option (RS × Int32) := (tab_expr F n).2.2.2.2.2.2.2.2 cs x1
theorem s_aggregate (l : Launch) (dC : Nat → ClassId) (dI : Nat → Nat → Nat) (cB cI cJ cZ : ClassId) (h0 : Nat) (a : Nat → Nat) (K V : Nat → Nat) (fz : Value) (F n : Nat) (cs : RS) (x1 : Int32) (cs9 : RS) (r9 : Int32) (hf : m_aggregate F n cs x1 = some (cs9, r9)) : okI l dC dI cB cI cJ cZ h0 a K V fz yX12_aggregate (wsOf yX12_aggregate cX12_aggregate 4 (some .int)) (n + 10) [.ref h0, .int x1] cs cs9 r9 := (sg_expr l dC dI cB cI cJ cZ h0 a K V fz F n).2.2.2.2.2.2.2.2 cs x1 cs9 r9 hf
