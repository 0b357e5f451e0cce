/-! the reference, mirrored: workQuery, workSelect, workSource, sort, compareAcross, isLikeNext, differ, renew -/
abbrev TG_workQuery : Type := (RS → Int32 → Option (RS × Int32)) × (RS → Int32 → Option (RS × Int32)) × (RS → Int32 → Option (RS × Int32))
theorem dX12_workQuery_0 : decode cX12_workQuery 0 = .ok (.aload_n 0, 1) := by decide +kernel
theorem dX12_workQuery_1 : decode cX12_workQuery 1 = .ok (.aload_n 0, 1) := by decide +kernel
theorem dX12_workQuery_2 : decode cX12_workQuery 2 = .ok (.getfield 160, 3) := by decide +kernel
theorem dX12_workQuery_5 : decode cX12_workQuery 5 = .ok (.iconst 5, 1) := by decide +kernel
theorem dX12_workQuery_6 : decode cX12_workQuery 6 = .ok (.iload_n 1, 1) := by decide +kernel
theorem dX12_workQuery_7 : decode cX12_workQuery 7 = .ok (.imul, 1) := by decide +kernel
theorem dX12_workQuery_8 : decode cX12_workQuery 8 = .ok (.iaload, 1) := by decide +kernel
theorem dX12_workQuery_9 : decode cX12_workQuery 9 = .ok (.invokevirtual 700, 3) := by decide +kernel
theorem dX12_workQuery_12 : decode cX12_workQuery 12 = .ok (.istore_n 2, 1) := by decide +kernel
theorem dX12_workQuery_13 : decode cX12_workQuery 13 = .ok (.iconst 1, 1) := by decide +kernel
theorem dX12_workQuery_14 : decode cX12_workQuery 14 = .ok (.istore_n 3, 1) := by decide +kernel
theorem dX12_workQuery_15 : decode cX12_workQuery 15 = .ok (.iload_n 3, 1) := by decide +kernel
theorem dX12_workQuery_16 : decode cX12_workQuery 16 = .ok (.aload_n 0, 1) := by decide +kernel
theorem dX12_workQuery_17 : decode cX12_workQuery 17 = .ok (.getfield 157, 3) := by decide +kernel
theorem dX12_workQuery_20 : decode cX12_workQuery 20 = .ok (.iload_n 1, 1) := by decide +kernel
theorem dX12_workQuery_21 : decode cX12_workQuery 21 = .ok (.iaload, 1) := by decide +kernel
theorem dX12_workQuery_22 : decode cX12_workQuery 22 = .ok (.if_icmp .ge 43, 3) := by decide +kernel
theorem dX12_workQuery_25 : decode cX12_workQuery 25 = .ok (.aload_n 0, 1) := by decide +kernel
theorem dX12_workQuery_26 : decode cX12_workQuery 26 = .ok (.aload_n 0, 1) := by decide +kernel
theorem dX12_workQuery_27 : decode cX12_workQuery 27 = .ok (.getfield 160, 3) := by decide +kernel
theorem dX12_workQuery_30 : decode cX12_workQuery 30 = .ok (.iconst 5, 1) := by decide +kernel
theorem dX12_workQuery_31 : decode cX12_workQuery 31 = .ok (.iload_n 1, 1) := by decide +kernel
theorem dX12_workQuery_32 : decode cX12_workQuery 32 = .ok (.imul, 1) := by decide +kernel
theorem dX12_workQuery_33 : decode cX12_workQuery 33 = .ok (.iload_n 3, 1) := by decide +kernel
theorem dX12_workQuery_34 : decode cX12_workQuery 34 = .ok (.iadd, 1) := by decide +kernel
theorem dX12_workQuery_35 : decode cX12_workQuery 35 = .ok (.iaload, 1) := by decide +kernel
theorem dX12_workQuery_36 : decode cX12_workQuery 36 = .ok (.invokevirtual 700, 3) := by decide +kernel
theorem dX12_workQuery_39 : decode cX12_workQuery 39 = .ok (.istore 4, 2) := by decide +kernel
theorem dX12_workQuery_41 : decode cX12_workQuery 41 = .ok (.aload_n 0, 1) := by decide +kernel
theorem dX12_workQuery_42 : decode cX12_workQuery 42 = .ok (.aload_n 0, 1) := by decide +kernel
theorem dX12_workQuery_43 : decode cX12_workQuery 43 = .ok (.getfield 163, 3) := by decide +kernel
theorem dX12_workQuery_46 : decode cX12_workQuery 46 = .ok (.iconst 5, 1) := by decide +kernel
theorem dX12_workQuery_47 : decode cX12_workQuery 47 = .ok (.iload_n 1, 1) := by decide +kernel
theorem dX12_workQuery_48 : decode cX12_workQuery 48 = .ok (.imul, 1) := by decide +kernel
theorem dX12_workQuery_49 : decode cX12_workQuery 49 = .ok (.iload_n 3, 1) := by decide +kernel
theorem dX12_workQuery_50 : decode cX12_workQuery 50 = .ok (.iadd, 1) := by decide +kernel
theorem dX12_workQuery_51 : decode cX12_workQuery 51 = .ok (.iaload, 1) := by decide +kernel
theorem dX12_workQuery_52 : decode cX12_workQuery 52 = .ok (.iload_n 2, 1) := by decide +kernel
theorem dX12_workQuery_53 : decode cX12_workQuery 53 = .ok (.iload 4, 2) := by decide +kernel
theorem dX12_workQuery_55 : decode cX12_workQuery 55 = .ok (.invokevirtual 703, 3) := by decide +kernel
theorem dX12_workQuery_58 : decode cX12_workQuery 58 = .ok (.istore_n 2, 1) := by decide +kernel
theorem dX12_workQuery_59 : decode cX12_workQuery 59 = .ok (.iinc 3 1, 3) := by decide +kernel
theorem dX12_workQuery_62 : decode cX12_workQuery 62 = .ok (.goto (-47), 3) := by decide +kernel
theorem dX12_workQuery_65 : decode cX12_workQuery 65 = .ok (.aload_n 0, 1) := by decide +kernel
theorem dX12_workQuery_66 : decode cX12_workQuery 66 = .ok (.getfield 172, 3) := by decide +kernel
theorem dX12_workQuery_69 : decode cX12_workQuery 69 = .ok (.iload_n 1, 1) := by decide +kernel
theorem dX12_workQuery_70 : decode cX12_workQuery 70 = .ok (.iaload, 1) := by decide +kernel
theorem dX12_workQuery_71 : decode cX12_workQuery 71 = .ok (.iconst (-1), 1) := by decide +kernel
theorem dX12_workQuery_72 : decode cX12_workQuery 72 = .ok (.if_icmp .ne 7, 3) := by decide +kernel
theorem dX12_workQuery_75 : decode cX12_workQuery 75 = .ok (.iload_n 2, 1) := by decide +kernel
theorem dX12_workQuery_76 : decode cX12_workQuery 76 = .ok (.goto 9, 3) := by decide +kernel
theorem dX12_workQuery_79 : decode cX12_workQuery 79 = .ok (.aload_n 0, 1) := by decide +kernel
theorem dX12_workQuery_80 : decode cX12_workQuery 80 = .ok (.iload_n 1, 1) := by decide +kernel
theorem dX12_workQuery_81 : decode cX12_workQuery 81 = .ok (.iload_n 2, 1) := by decide +kernel
theorem dX12_workQuery_82 : decode cX12_workQuery 82 = .ok (.invokevirtual 706, 3) := by decide +kernel
theorem dX12_workQuery_85 : decode cX12_workQuery 85 = .ok (.ireturn, 1) := by decide +kernel
def m_workQuery_b85 (F : Nat) (T : TG_workQuery) (cs1 : RS) (y0 : Int32) : Option (RS × Int32) := some (cs1, y0)
def m_workQuery_L15 (F : Nat) (T : TG_workQuery) : Nat → RS → Int32 → Int32 → Int32 → Option (RS × Int32)
  | 0, _, _, _, _ => none
  | lf_15 + 1, cs1, u1, u2, u3 => Option.bind (rdI (cs1.2.2.1 60) 60 u1) fun v_1 => if v_1 ≤ u3 then (Option.bind (rdI (cs1.2.2.1 65) 60 u1) fun v_3 => if v_3 = (-1) then (m_workQuery_b85 F T cs1 u2) else (Option.bind (m_ordered F cs1 u1 u2) fun z_5 => m_workQuery_b85 F T z_5.1 z_5.2)) else (Option.bind (rdI (cs1.2.2.1 61) 300 ((5 * u1) + u3)) fun v_6 => Option.bind (T.2.1 cs1 v_6) fun z_7 => Option.bind (rdI (z_7.1.2.2.1 62) 300 ((5 * u1) + u3)) fun v_8 => Option.bind (m_setOf F z_7.1 v_8 u2 z_7.2) fun z_9 => (m_workQuery_L15 F T lf_15) z_9.1 u1 z_9.2 (u3 + 1))
def b_workQuery (F : Nat) (T : TG_workQuery) (cs : RS) (x1 : Int32) : Option (RS × Int32) := Option.bind (rdI (cs.2.2.1 61) 300 (5 * x1)) fun v_10 => Option.bind (T.2.1 cs v_10) fun z_11 => m_workQuery_L15 F T F z_11.1 x1 z_11.2 1
theorem dX12_workSelect_0 : decode cX12_workSelect 0 = .ok (.aload_n 0, 1) := by decide +kernel
theorem dX12_workSelect_1 : decode cX12_workSelect 1 = .ok (.iconst 3, 1) := by decide +kernel
theorem dX12_workSelect_2 : decode cX12_workSelect 2 = .ok (.iload_n 1, 1) := by decide +kernel
theorem dX12_workSelect_3 : decode cX12_workSelect 3 = .ok (.imul, 1) := by decide +kernel
theorem dX12_workSelect_4 : decode cX12_workSelect 4 = .ok (.invokevirtual 675, 3) := by decide +kernel
theorem dX12_workSelect_7 : decode cX12_workSelect 7 = .ok (.istore_n 2, 1) := by decide +kernel
theorem dX12_workSelect_8 : decode cX12_workSelect 8 = .ok (.iconst 1, 1) := by decide +kernel
theorem dX12_workSelect_9 : decode cX12_workSelect 9 = .ok (.istore_n 3, 1) := by decide +kernel
theorem dX12_workSelect_10 : decode cX12_workSelect 10 = .ok (.iload_n 3, 1) := by decide +kernel
theorem dX12_workSelect_11 : decode cX12_workSelect 11 = .ok (.aload_n 0, 1) := by decide +kernel
theorem dX12_workSelect_12 : decode cX12_workSelect 12 = .ok (.getfield 91, 3) := by decide +kernel
theorem dX12_workSelect_15 : decode cX12_workSelect 15 = .ok (.iload_n 1, 1) := by decide +kernel
theorem dX12_workSelect_16 : decode cX12_workSelect 16 = .ok (.iaload, 1) := by decide +kernel
theorem dX12_workSelect_17 : decode cX12_workSelect 17 = .ok (.if_icmp .ge 38, 3) := by decide +kernel
theorem dX12_workSelect_20 : decode cX12_workSelect 20 = .ok (.aload_n 0, 1) := by decide +kernel
theorem dX12_workSelect_21 : decode cX12_workSelect 21 = .ok (.iconst 3, 1) := by decide +kernel
theorem dX12_workSelect_22 : decode cX12_workSelect 22 = .ok (.iload_n 1, 1) := by decide +kernel
theorem dX12_workSelect_23 : decode cX12_workSelect 23 = .ok (.imul, 1) := by decide +kernel
theorem dX12_workSelect_24 : decode cX12_workSelect 24 = .ok (.iload_n 3, 1) := by decide +kernel
theorem dX12_workSelect_25 : decode cX12_workSelect 25 = .ok (.iadd, 1) := by decide +kernel
theorem dX12_workSelect_26 : decode cX12_workSelect 26 = .ok (.invokevirtual 675, 3) := by decide +kernel
theorem dX12_workSelect_29 : decode cX12_workSelect 29 = .ok (.istore 4, 2) := by decide +kernel
theorem dX12_workSelect_31 : decode cX12_workSelect 31 = .ok (.aload_n 0, 1) := by decide +kernel
theorem dX12_workSelect_32 : decode cX12_workSelect 32 = .ok (.iconst 0, 1) := by decide +kernel
theorem dX12_workSelect_33 : decode cX12_workSelect 33 = .ok (.putfield 615, 3) := by decide +kernel
theorem dX12_workSelect_36 : decode cX12_workSelect 36 = .ok (.aload_n 0, 1) := by decide +kernel
theorem dX12_workSelect_37 : decode cX12_workSelect 37 = .ok (.iload_n 2, 1) := by decide +kernel
theorem dX12_workSelect_38 : decode cX12_workSelect 38 = .ok (.iload 4, 2) := by decide +kernel
theorem dX12_workSelect_40 : decode cX12_workSelect 40 = .ok (.iconst 3, 1) := by decide +kernel
theorem dX12_workSelect_41 : decode cX12_workSelect 41 = .ok (.iload_n 1, 1) := by decide +kernel
theorem dX12_workSelect_42 : decode cX12_workSelect 42 = .ok (.imul, 1) := by decide +kernel
theorem dX12_workSelect_43 : decode cX12_workSelect 43 = .ok (.iload_n 3, 1) := by decide +kernel
theorem dX12_workSelect_44 : decode cX12_workSelect 44 = .ok (.iadd, 1) := by decide +kernel
theorem dX12_workSelect_45 : decode cX12_workSelect 45 = .ok (.invokevirtual 678, 3) := by decide +kernel
theorem dX12_workSelect_48 : decode cX12_workSelect 48 = .ok (.istore_n 2, 1) := by decide +kernel
theorem dX12_workSelect_49 : decode cX12_workSelect 49 = .ok (.iinc 3 1, 3) := by decide +kernel
theorem dX12_workSelect_52 : decode cX12_workSelect 52 = .ok (.goto (-42), 3) := by decide +kernel
theorem dX12_workSelect_55 : decode cX12_workSelect 55 = .ok (.aload_n 0, 1) := by decide +kernel
theorem dX12_workSelect_56 : decode cX12_workSelect 56 = .ok (.iconst 0, 1) := by decide +kernel
theorem dX12_workSelect_57 : decode cX12_workSelect 57 = .ok (.putfield 615, 3) := by decide +kernel
theorem dX12_workSelect_60 : decode cX12_workSelect 60 = .ok (.aload_n 0, 1) := by decide +kernel
theorem dX12_workSelect_61 : decode cX12_workSelect 61 = .ok (.getfield 94, 3) := by decide +kernel
theorem dX12_workSelect_64 : decode cX12_workSelect 64 = .ok (.iload_n 1, 1) := by decide +kernel
theorem dX12_workSelect_65 : decode cX12_workSelect 65 = .ok (.iaload, 1) := by decide +kernel
theorem dX12_workSelect_66 : decode cX12_workSelect 66 = .ok (.iconst (-1), 1) := by decide +kernel
theorem dX12_workSelect_67 : decode cX12_workSelect 67 = .ok (.if_icmp .eq 15, 3) := by decide +kernel
theorem dX12_workSelect_70 : decode cX12_workSelect 70 = .ok (.aload_n 0, 1) := by decide +kernel
theorem dX12_workSelect_71 : decode cX12_workSelect 71 = .ok (.iload_n 2, 1) := by decide +kernel
theorem dX12_workSelect_72 : decode cX12_workSelect 72 = .ok (.aload_n 0, 1) := by decide +kernel
theorem dX12_workSelect_73 : decode cX12_workSelect 73 = .ok (.getfield 94, 3) := by decide +kernel
theorem dX12_workSelect_76 : decode cX12_workSelect 76 = .ok (.iload_n 1, 1) := by decide +kernel
theorem dX12_workSelect_77 : decode cX12_workSelect 77 = .ok (.iaload, 1) := by decide +kernel
theorem dX12_workSelect_78 : decode cX12_workSelect 78 = .ok (.invokevirtual 681, 3) := by decide +kernel
theorem dX12_workSelect_81 : decode cX12_workSelect 81 = .ok (.istore_n 2, 1) := by decide +kernel
theorem dX12_workSelect_82 : decode cX12_workSelect 82 = .ok (.aload_n 0, 1) := by decide +kernel
theorem dX12_workSelect_83 : decode cX12_workSelect 83 = .ok (.iload_n 1, 1) := by decide +kernel
theorem dX12_workSelect_84 : decode cX12_workSelect 84 = .ok (.invokevirtual 571, 3) := by decide +kernel
theorem dX12_workSelect_87 : decode cX12_workSelect 87 = .ok (.ifCond .ne 25, 3) := by decide +kernel
theorem dX12_workSelect_90 : decode cX12_workSelect 90 = .ok (.aload_n 0, 1) := by decide +kernel
theorem dX12_workSelect_91 : decode cX12_workSelect 91 = .ok (.getfield 103, 3) := by decide +kernel
theorem dX12_workSelect_94 : decode cX12_workSelect 94 = .ok (.iload_n 1, 1) := by decide +kernel
theorem dX12_workSelect_95 : decode cX12_workSelect 95 = .ok (.iaload, 1) := by decide +kernel
theorem dX12_workSelect_96 : decode cX12_workSelect 96 = .ok (.iconst (-1), 1) := by decide +kernel
theorem dX12_workSelect_97 : decode cX12_workSelect 97 = .ok (.if_icmp .eq 15, 3) := by decide +kernel
theorem dX12_workSelect_100 : decode cX12_workSelect 100 = .ok (.aload_n 0, 1) := by decide +kernel
theorem dX12_workSelect_101 : decode cX12_workSelect 101 = .ok (.iload_n 2, 1) := by decide +kernel
theorem dX12_workSelect_102 : decode cX12_workSelect 102 = .ok (.aload_n 0, 1) := by decide +kernel
theorem dX12_workSelect_103 : decode cX12_workSelect 103 = .ok (.getfield 103, 3) := by decide +kernel
theorem dX12_workSelect_106 : decode cX12_workSelect 106 = .ok (.iload_n 1, 1) := by decide +kernel
theorem dX12_workSelect_107 : decode cX12_workSelect 107 = .ok (.iaload, 1) := by decide +kernel
theorem dX12_workSelect_108 : decode cX12_workSelect 108 = .ok (.invokevirtual 681, 3) := by decide +kernel
theorem dX12_workSelect_111 : decode cX12_workSelect 111 = .ok (.istore_n 2, 1) := by decide +kernel
theorem dX12_workSelect_112 : decode cX12_workSelect 112 = .ok (.aload_n 0, 1) := by decide +kernel
theorem dX12_workSelect_113 : decode cX12_workSelect 113 = .ok (.iload_n 1, 1) := by decide +kernel
theorem dX12_workSelect_114 : decode cX12_workSelect 114 = .ok (.invokevirtual 571, 3) := by decide +kernel
theorem dX12_workSelect_117 : decode cX12_workSelect 117 = .ok (.ifCond .eq 12, 3) := by decide +kernel
theorem dX12_workSelect_120 : decode cX12_workSelect 120 = .ok (.aload_n 0, 1) := by decide +kernel
theorem dX12_workSelect_121 : decode cX12_workSelect 121 = .ok (.iload_n 1, 1) := by decide +kernel
theorem dX12_workSelect_122 : decode cX12_workSelect 122 = .ok (.iload_n 2, 1) := by decide +kernel
theorem dX12_workSelect_123 : decode cX12_workSelect 123 = .ok (.invokevirtual 684, 3) := by decide +kernel
theorem dX12_workSelect_126 : decode cX12_workSelect 126 = .ok (.goto 9, 3) := by decide +kernel
theorem dX12_workSelect_129 : decode cX12_workSelect 129 = .ok (.aload_n 0, 1) := by decide +kernel
theorem dX12_workSelect_130 : decode cX12_workSelect 130 = .ok (.iload_n 1, 1) := by decide +kernel
theorem dX12_workSelect_131 : decode cX12_workSelect 131 = .ok (.iload_n 2, 1) := by decide +kernel
theorem dX12_workSelect_132 : decode cX12_workSelect 132 = .ok (.invokevirtual 687, 3) := by decide +kernel
theorem dX12_workSelect_135 : decode cX12_workSelect 135 = .ok (.istore_n 3, 1) := by decide +kernel
theorem dX12_workSelect_136 : decode cX12_workSelect 136 = .ok (.aload_n 0, 1) := by decide +kernel
theorem dX12_workSelect_137 : decode cX12_workSelect 137 = .ok (.getfield 85, 3) := by decide +kernel
theorem dX12_workSelect_140 : decode cX12_workSelect 140 = .ok (.iload_n 1, 1) := by decide +kernel
theorem dX12_workSelect_141 : decode cX12_workSelect 141 = .ok (.iaload, 1) := by decide +kernel
theorem dX12_workSelect_142 : decode cX12_workSelect 142 = .ok (.iconst (-1), 1) := by decide +kernel
theorem dX12_workSelect_143 : decode cX12_workSelect 143 = .ok (.if_icmp .eq 11, 3) := by decide +kernel
theorem dX12_workSelect_146 : decode cX12_workSelect 146 = .ok (.aload_n 0, 1) := by decide +kernel
theorem dX12_workSelect_147 : decode cX12_workSelect 147 = .ok (.iload_n 3, 1) := by decide +kernel
theorem dX12_workSelect_148 : decode cX12_workSelect 148 = .ok (.invokevirtual 690, 3) := by decide +kernel
theorem dX12_workSelect_151 : decode cX12_workSelect 151 = .ok (.goto 4, 3) := by decide +kernel
theorem dX12_workSelect_154 : decode cX12_workSelect 154 = .ok (.iload_n 3, 1) := by decide +kernel
theorem dX12_workSelect_155 : decode cX12_workSelect 155 = .ok (.ireturn, 1) := by decide +kernel
def m_workSelect_b155 (F : Nat) (T : TG_workQuery) (cs1 : RS) (y0 : Int32) : Option (RS × Int32) := some (cs1, y0)
def m_workSelect_b135 (F : Nat) (T : TG_workQuery) (cs1 : RS) (u1 : Int32) (y0 : Int32) : Option (RS × Int32) := Option.bind (rdI (cs1.2.2.1 35) 60 u1) fun v_1 => if v_1 = (-1) then (m_workSelect_b155 F T cs1 y0) else (Option.bind (m_once F cs1 y0) fun z_3 => m_workSelect_b155 F T z_3.1 z_3.2)
def m_workSelect_b112 (F : Nat) (T : TG_workQuery) (cs1 : RS) (u1 : Int32) (u2 : Int32) : Option (RS × Int32) := Option.bind (m_isGrouped F cs1 u1) fun v_4 => if v_4 = 0 then (Option.bind (m_plain F cs1 u1 u2) fun z_6 => m_workSelect_b135 F T z_6.1 u1 z_6.2) else (Option.bind (m_grouped F cs1 u1 u2) fun z_7 => m_workSelect_b135 F T z_7.1 u1 z_7.2)
def m_workSelect_b82 (F : Nat) (T : TG_workQuery) (cs1 : RS) (u1 : Int32) (u2 : Int32) : Option (RS × Int32) := Option.bind (m_isGrouped F cs1 u1) fun v_8 => if v_8 = 0 then (Option.bind (rdI (cs1.2.2.1 41) 60 u1) fun v_10 => if v_10 = (-1) then (m_workSelect_b112 F T cs1 u1 u2) else (Option.bind (rdI (cs1.2.2.1 41) 60 u1) fun v_12 => Option.bind (m_filter F cs1 u2 v_12) fun z_13 => m_workSelect_b112 F T z_13.1 u1 z_13.2)) else (m_workSelect_b112 F T cs1 u1 u2)
def m_workSelect_L10 (F : Nat) (T : TG_workQuery) : Nat → RS → Int32 → Int32 → Int32 → Option (RS × Int32)
  | 0, _, _, _, _ => none
  | lf_10 + 1, cs1, u1, u2, u3 => Option.bind (rdI (cs1.2.2.1 37) 60 u1) fun v_14 => if v_14 ≤ u3 then (Option.bind (rdI ((setF cs1 97 0).2.2.1 38) 60 u1) fun v_16 => if v_16 = (-1) then (m_workSelect_b82 F T (setF cs1 97 0) u1 u2) else (Option.bind (rdI ((setF cs1 97 0).2.2.1 38) 60 u1) fun v_18 => Option.bind (m_filter F (setF cs1 97 0) u2 v_18) fun z_19 => m_workSelect_b82 F T z_19.1 u1 z_19.2)) else (Option.bind (T.2.2 cs1 ((3 * u1) + u3)) fun z_20 => Option.bind (m_join F (setF z_20.1 97 0) u2 z_20.2 ((3 * u1) + u3)) fun z_21 => (m_workSelect_L10 F T lf_10) z_21.1 u1 z_21.2 (u3 + 1))
def b_workSelect (F : Nat) (T : TG_workQuery) (cs : RS) (x1 : Int32) : Option (RS × Int32) := Option.bind (T.2.2 cs (3 * x1)) fun z_22 => m_workSelect_L10 F T F z_22.1 x1 z_22.2 1
theorem dX12_workSource_0 : decode cX12_workSource 0 = .ok (.aload_n 0, 1) := by decide +kernel
theorem dX12_workSource_1 : decode cX12_workSource 1 = .ok (.getfield 127, 3) := by decide +kernel
theorem dX12_workSource_4 : decode cX12_workSource 4 = .ok (.iload_n 1, 1) := by decide +kernel
theorem dX12_workSource_5 : decode cX12_workSource 5 = .ok (.iaload, 1) := by decide +kernel
theorem dX12_workSource_6 : decode cX12_workSource 6 = .ok (.iconst (-1), 1) := by decide +kernel
theorem dX12_workSource_7 : decode cX12_workSource 7 = .ok (.if_icmp .ne 14, 3) := by decide +kernel
theorem dX12_workSource_10 : decode cX12_workSource 10 = .ok (.aload_n 0, 1) := by decide +kernel
theorem dX12_workSource_11 : decode cX12_workSource 11 = .ok (.aload_n 0, 1) := by decide +kernel
theorem dX12_workSource_12 : decode cX12_workSource 12 = .ok (.getfield 139, 3) := by decide +kernel
theorem dX12_workSource_15 : decode cX12_workSource 15 = .ok (.iload_n 1, 1) := by decide +kernel
theorem dX12_workSource_16 : decode cX12_workSource 16 = .ok (.iaload, 1) := by decide +kernel
theorem dX12_workSource_17 : decode cX12_workSource 17 = .ok (.invokevirtual 659, 3) := by decide +kernel
theorem dX12_workSource_20 : decode cX12_workSource 20 = .ok (.ireturn, 1) := by decide +kernel
theorem dX12_workSource_21 : decode cX12_workSource 21 = .ok (.aload_n 0, 1) := by decide +kernel
theorem dX12_workSource_22 : decode cX12_workSource 22 = .ok (.getfield 127, 3) := by decide +kernel
theorem dX12_workSource_25 : decode cX12_workSource 25 = .ok (.iload_n 1, 1) := by decide +kernel
theorem dX12_workSource_26 : decode cX12_workSource 26 = .ok (.iaload, 1) := by decide +kernel
theorem dX12_workSource_27 : decode cX12_workSource 27 = .ok (.istore_n 2, 1) := by decide +kernel
theorem dX12_workSource_28 : decode cX12_workSource 28 = .ok (.aload_n 0, 1) := by decide +kernel
theorem dX12_workSource_29 : decode cX12_workSource 29 = .ok (.getfield 16, 3) := by decide +kernel
theorem dX12_workSource_32 : decode cX12_workSource 32 = .ok (.iload_n 2, 1) := by decide +kernel
theorem dX12_workSource_33 : decode cX12_workSource 33 = .ok (.iaload, 1) := by decide +kernel
theorem dX12_workSource_34 : decode cX12_workSource 34 = .ok (.istore_n 3, 1) := by decide +kernel
theorem dX12_workSource_35 : decode cX12_workSource 35 = .ok (.aload_n 0, 1) := by decide +kernel
theorem dX12_workSource_36 : decode cX12_workSource 36 = .ok (.iload_n 3, 1) := by decide +kernel
theorem dX12_workSource_37 : decode cX12_workSource 37 = .ok (.iconst 1, 1) := by decide +kernel
theorem dX12_workSource_38 : decode cX12_workSource 38 = .ok (.iadd, 1) := by decide +kernel
theorem dX12_workSource_39 : decode cX12_workSource 39 = .ok (.invokevirtual 662, 3) := by decide +kernel
theorem dX12_workSource_42 : decode cX12_workSource 42 = .ok (.istore 4, 2) := by decide +kernel
theorem dX12_workSource_44 : decode cX12_workSource 44 = .ok (.iconst 0, 1) := by decide +kernel
theorem dX12_workSource_45 : decode cX12_workSource 45 = .ok (.istore 5, 2) := by decide +kernel
theorem dX12_workSource_47 : decode cX12_workSource 47 = .ok (.iload 5, 2) := by decide +kernel
theorem dX12_workSource_49 : decode cX12_workSource 49 = .ok (.bipush 8, 2) := by decide +kernel
theorem dX12_workSource_51 : decode cX12_workSource 51 = .ok (.if_icmp .ge 121, 3) := by decide +kernel
theorem dX12_workSource_54 : decode cX12_workSource 54 = .ok (.bipush 8, 2) := by decide +kernel
theorem dX12_workSource_56 : decode cX12_workSource 56 = .ok (.iload_n 2, 1) := by decide +kernel
theorem dX12_workSource_57 : decode cX12_workSource 57 = .ok (.imul, 1) := by decide +kernel
theorem dX12_workSource_58 : decode cX12_workSource 58 = .ok (.iload 5, 2) := by decide +kernel
theorem dX12_workSource_60 : decode cX12_workSource 60 = .ok (.iadd, 1) := by decide +kernel
theorem dX12_workSource_61 : decode cX12_workSource 61 = .ok (.istore 6, 2) := by decide +kernel
theorem dX12_workSource_63 : decode cX12_workSource 63 = .ok (.aload_n 0, 1) := by decide +kernel
theorem dX12_workSource_64 : decode cX12_workSource 64 = .ok (.iload_n 1, 1) := by decide +kernel
theorem dX12_workSource_65 : decode cX12_workSource 65 = .ok (.iload 6, 2) := by decide +kernel
theorem dX12_workSource_67 : decode cX12_workSource 67 = .ok (.invokevirtual 665, 3) := by decide +kernel
theorem dX12_workSource_70 : decode cX12_workSource 70 = .ok (.ifCond .eq 96, 3) := by decide +kernel
theorem dX12_workSource_73 : decode cX12_workSource 73 = .ok (.aload_n 0, 1) := by decide +kernel
theorem dX12_workSource_74 : decode cX12_workSource 74 = .ok (.iload 4, 2) := by decide +kernel
theorem dX12_workSource_76 : decode cX12_workSource 76 = .ok (.invokevirtual 668, 3) := by decide +kernel
theorem dX12_workSource_79 : decode cX12_workSource 79 = .ok (.istore 7, 2) := by decide +kernel
theorem dX12_workSource_81 : decode cX12_workSource 81 = .ok (.iconst 0, 1) := by decide +kernel
theorem dX12_workSource_82 : decode cX12_workSource 82 = .ok (.istore 8, 2) := by decide +kernel
theorem dX12_workSource_84 : decode cX12_workSource 84 = .ok (.iload 8, 2) := by decide +kernel
theorem dX12_workSource_86 : decode cX12_workSource 86 = .ok (.iload_n 3, 1) := by decide +kernel
theorem dX12_workSource_87 : decode cX12_workSource 87 = .ok (.if_icmp .ge 53, 3) := by decide +kernel
theorem dX12_workSource_90 : decode cX12_workSource 90 = .ok (.aload_n 0, 1) := by decide +kernel
theorem dX12_workSource_91 : decode cX12_workSource 91 = .ok (.getfield 194, 3) := by decide +kernel
theorem dX12_workSource_94 : decode cX12_workSource 94 = .ok (.iload 7, 2) := by decide +kernel
theorem dX12_workSource_96 : decode cX12_workSource 96 = .ok (.iload 8, 2) := by decide +kernel
theorem dX12_workSource_98 : decode cX12_workSource 98 = .ok (.iadd, 1) := by decide +kernel
theorem dX12_workSource_99 : decode cX12_workSource 99 = .ok (.aload_n 0, 1) := by decide +kernel
theorem dX12_workSource_100 : decode cX12_workSource 100 = .ok (.getfield 28, 3) := by decide +kernel
theorem dX12_workSource_103 : decode cX12_workSource 103 = .ok (.iconst 4, 1) := by decide +kernel
theorem dX12_workSource_104 : decode cX12_workSource 104 = .ok (.iload 6, 2) := by decide +kernel
theorem dX12_workSource_106 : decode cX12_workSource 106 = .ok (.imul, 1) := by decide +kernel
theorem dX12_workSource_107 : decode cX12_workSource 107 = .ok (.iload 8, 2) := by decide +kernel
theorem dX12_workSource_109 : decode cX12_workSource 109 = .ok (.iadd, 1) := by decide +kernel
theorem dX12_workSource_110 : decode cX12_workSource 110 = .ok (.laload, 1) := by decide +kernel
theorem dX12_workSource_111 : decode cX12_workSource 111 = .ok (.lastore, 1) := by decide +kernel
theorem dX12_workSource_112 : decode cX12_workSource 112 = .ok (.aload_n 0, 1) := by decide +kernel
theorem dX12_workSource_113 : decode cX12_workSource 113 = .ok (.getfield 197, 3) := by decide +kernel
theorem dX12_workSource_116 : decode cX12_workSource 116 = .ok (.iload 7, 2) := by decide +kernel
theorem dX12_workSource_118 : decode cX12_workSource 118 = .ok (.iload 8, 2) := by decide +kernel
theorem dX12_workSource_120 : decode cX12_workSource 120 = .ok (.iadd, 1) := by decide +kernel
theorem dX12_workSource_121 : decode cX12_workSource 121 = .ok (.aload_n 0, 1) := by decide +kernel
theorem dX12_workSource_122 : decode cX12_workSource 122 = .ok (.getfield 31, 3) := by decide +kernel
theorem dX12_workSource_125 : decode cX12_workSource 125 = .ok (.iconst 4, 1) := by decide +kernel
theorem dX12_workSource_126 : decode cX12_workSource 126 = .ok (.iload 6, 2) := by decide +kernel
theorem dX12_workSource_128 : decode cX12_workSource 128 = .ok (.imul, 1) := by decide +kernel
theorem dX12_workSource_129 : decode cX12_workSource 129 = .ok (.iload 8, 2) := by decide +kernel
theorem dX12_workSource_131 : decode cX12_workSource 131 = .ok (.iadd, 1) := by decide +kernel
theorem dX12_workSource_132 : decode cX12_workSource 132 = .ok (.baload, 1) := by decide +kernel
theorem dX12_workSource_133 : decode cX12_workSource 133 = .ok (.bastore, 1) := by decide +kernel
theorem dX12_workSource_134 : decode cX12_workSource 134 = .ok (.iinc 8 1, 3) := by decide +kernel
theorem dX12_workSource_137 : decode cX12_workSource 137 = .ok (.goto (-53), 3) := by decide +kernel
theorem dX12_workSource_140 : decode cX12_workSource 140 = .ok (.aload_n 0, 1) := by decide +kernel
theorem dX12_workSource_141 : decode cX12_workSource 141 = .ok (.getfield 194, 3) := by decide +kernel
theorem dX12_workSource_144 : decode cX12_workSource 144 = .ok (.iload 7, 2) := by decide +kernel
theorem dX12_workSource_146 : decode cX12_workSource 146 = .ok (.iload_n 3, 1) := by decide +kernel
theorem dX12_workSource_147 : decode cX12_workSource 147 = .ok (.iadd, 1) := by decide +kernel
theorem dX12_workSource_148 : decode cX12_workSource 148 = .ok (.aload_n 0, 1) := by decide +kernel
theorem dX12_workSource_149 : decode cX12_workSource 149 = .ok (.getfield 24, 3) := by decide +kernel
theorem dX12_workSource_152 : decode cX12_workSource 152 = .ok (.iload 6, 2) := by decide +kernel
theorem dX12_workSource_154 : decode cX12_workSource 154 = .ok (.laload, 1) := by decide +kernel
theorem dX12_workSource_155 : decode cX12_workSource 155 = .ok (.lastore, 1) := by decide +kernel
theorem dX12_workSource_156 : decode cX12_workSource 156 = .ok (.aload_n 0, 1) := by decide +kernel
theorem dX12_workSource_157 : decode cX12_workSource 157 = .ok (.getfield 197, 3) := by decide +kernel
theorem dX12_workSource_160 : decode cX12_workSource 160 = .ok (.iload 7, 2) := by decide +kernel
theorem dX12_workSource_162 : decode cX12_workSource 162 = .ok (.iload_n 3, 1) := by decide +kernel
theorem dX12_workSource_163 : decode cX12_workSource 163 = .ok (.iadd, 1) := by decide +kernel
theorem dX12_workSource_164 : decode cX12_workSource 164 = .ok (.iconst 0, 1) := by decide +kernel
theorem dX12_workSource_165 : decode cX12_workSource 165 = .ok (.bastore, 1) := by decide +kernel
theorem dX12_workSource_166 : decode cX12_workSource 166 = .ok (.iinc 5 1, 3) := by decide +kernel
theorem dX12_workSource_169 : decode cX12_workSource 169 = .ok (.goto (-122), 3) := by decide +kernel
theorem dX12_workSource_172 : decode cX12_workSource 172 = .ok (.iload 4, 2) := by decide +kernel
theorem dX12_workSource_174 : decode cX12_workSource 174 = .ok (.ireturn, 1) := by decide +kernel
def m_workSource_b166 (F : Nat) (T : TG_workQuery) (rc47 : RS → Int32 → Int32 → Int32 → Int32 → Int32 → Option (RS × Int32)) (cs1 : RS) (u1 : Int32) (u2 : Int32) (u3 : Int32) (u4 : Int32) (u5 : Int32) : Option (RS × Int32) := rc47 cs1 u1 u2 u3 u4 (u5 + 1)
def m_workSource_L84 (F : Nat) (T : TG_workQuery) (rc47 : RS → Int32 → Int32 → Int32 → Int32 → Int32 → Option (RS × Int32)) : Nat → RS → Int32 → Int32 → Int32 → Int32 → Int32 → Int32 → Int32 → Int32 → Option (RS × Int32)
  | 0, _, _, _, _, _, _, _, _, _ => none
  | lf_84 + 1, cs1, u1, u2, u3, u4, u5, u6, u7, u8 => if u3 ≤ u8 then (Option.bind (rdL (cs1.2.2.2 7) 48 u6) fun v_2 => Option.bind (wrL cs1 85 400000 (u7 + u3) v_2) fun cs_3 => Option.bind (wrI cs_3 86 400000 (u7 + u3) (vp_nar .boolean 0)) fun cs_4 => m_workSource_b166 F T rc47 cs_4 u1 u2 u3 u4 u5) else (Option.bind (rdL (cs1.2.2.2 8) 192 ((4 * u6) + u8)) fun v_5 => Option.bind (wrL cs1 85 400000 (u7 + u8) v_5) fun cs_6 => Option.bind (rdI (cs_6.2.2.1 9) 192 ((4 * u6) + u8)) fun v_7 => Option.bind (wrI cs_6 86 400000 (u7 + u8) (vp_nar .boolean v_7)) fun cs_8 => (m_workSource_L84 F T rc47 lf_84) cs_8 u1 u2 u3 u4 u5 u6 u7 (u8 + 1))
def m_workSource_L47 (F : Nat) (T : TG_workQuery) : Nat → RS → Int32 → Int32 → Int32 → Int32 → Int32 → Option (RS × Int32)
  | 0, _, _, _, _, _, _ => none
  | lf_47 + 1, cs1, u1, u2, u3, u4, u5 => if 8 ≤ u5 then (some (cs1, u4)) else (Option.bind (m_isIn F cs1 u1 ((8 * u2) + u5)) fun v_10 => if v_10 = 0 then (m_workSource_b166 F T (m_workSource_L47 F T lf_47) cs1 u1 u2 u3 u4 u5) else (Option.bind (m_newRow F cs1 u4) fun z_12 => m_workSource_L84 F T (m_workSource_L47 F T lf_47) F z_12.1 u1 u2 u3 u4 u5 ((8 * u2) + u5) z_12.2 0))
def b_workSource (F : Nat) (T : TG_workQuery) (cs : RS) (x1 : Int32) : Option (RS × Int32) := Option.bind (rdI (cs.2.2.1 49) 180 x1) fun v_13 => if v_13 = (-1) then (Option.bind (rdI (cs.2.2.1 53) 180 x1) fun v_18 => Option.bind (T.1 cs v_18) fun z_19 => some (z_19.1, z_19.2)) else (Option.bind (rdI (cs.2.2.1 49) 180 x1) fun v_15 => Option.bind (rdI (cs.2.2.1 5) 6 v_15) fun v_16 => Option.bind (m_relation F cs (v_16 + 1)) fun z_17 => m_workSource_L47 F T F z_17.1 x1 v_15 v_16 z_17.2 0)
def tab_workQuery (F : Nat) : Nat → TG_workQuery
  | 0 => (fun _ _ => none, fun _ _ => none, fun _ _ => none)
  | n + 1 => (b_workQuery F (tab_workQuery F n), b_workSelect F (tab_workQuery F n), b_workSource F (tab_workQuery F n))
theorem cw_workQuery {R : Room} {s : State} {args : Array Value} {y0 : MethodName} {c0 : ByteArray} {n0 : Nat} {r0 : Option FieldType} (hts : ∀ w ∈ wsOf y0 c0 n0 r0, w.before args s = true) {fr : Nat} (h1 : fr + 1 ≤ R.frames) (h2 : 8 + (5 + 11) + 60 * fr ≤ R.locals) : CallW R s args RX12 RX12 659 yX12_workQuery cX12_workQuery 5 (some .int) (wsOf yX12_workQuery cX12_workQuery 5 (some .int)) ({ frames := fr, cells := 0, slots := 0, locals := 60 * fr } : Room) 0 0 1 := cwV 1 hts (gd_all (in_V kw_2077 kw_2079 kw_100 kw_191 kc_X12_workQuery)) rfl rfl rfl (by decide +kernel) ⟨h1, h2⟩
theorem cw_workSelect {R : Room} {s : State} {args : Array Value} {y0 : MethodName} {c0 : ByteArray} {n0 : Nat} {r0 : Option FieldType} (hts : ∀ w ∈ wsOf y0 c0 n0 r0, w.before args s = true) {fr : Nat} (h1 : fr + 1 ≤ R.frames) (h2 : 8 + (5 + 11) + 60 * fr ≤ R.locals) : CallW R s args RX12 RX12 700 yX12_workSelect cX12_workSelect 5 (some .int) (wsOf yX12_workSelect cX12_workSelect 5 (some .int)) ({ frames := fr, cells := 0, slots := 0, locals := 60 * fr } : Room) 0 0 1 := cwV 1 hts (gd_all (in_V kw_2081 kw_2083 kw_101 kw_191 kc_X12_workSelect)) rfl rfl rfl (by decide +kernel) ⟨h1, h2⟩
theorem cw_workSource {R : Room} {s : State} {args : Array Value} {y0 : MethodName} {c0 : ByteArray} {n0 : Nat} {r0 : Option FieldType} (hts : ∀ w ∈ wsOf y0 c0 n0 r0, w.before args s = true) {fr : Nat} (h1 : fr + 1 ≤ R.frames) (h2 : 8 + (9 + 11) + 60 * fr ≤ R.locals) : CallW R s args RX12 RX12 675 yX12_workSource cX12_workSource 9 (some .int) (wsOf yX12_workSource cX12_workSource 9 (some .int)) ({ frames := fr, cells := 0, slots := 0, locals := 60 * fr } : Room) 0 0 1 := cwV 1 hts (gd_all (in_V kw_2085 kw_2087 kw_102 kw_191 kc_X12_workSource)) rfl rfl rfl (by decide +kernel) ⟨h1, h2⟩
set_option maxHeartbeats 4000000 in
set_option maxRecDepth 100000 in
theorem sb_workQuery (l : Launch) (dC : Nat → ClassId) (dI : Nat → Nat → Nat) (cB cI cJ cZ : ClassId) (h0 : Nat) (a : Nat → Nat) (K V : Nat → Nat) (fz : Value) (F : Nat) (n : Nat) (T : TG_workQuery) (hT_workQuery : ∀ (cs : RS) (x1 : Int32) (cs9 : RS) (r9 : Int32), T.1 cs x1 = some (cs9, r9) → okI l dC dI cB cI cJ cZ h0 a K V fz yX12_workQuery (wsOf yX12_workQuery cX12_workQuery 5 (some .int)) (n + 304) [.ref h0, .int x1] cs cs9 r9) (hT_workSelect : ∀ (cs : RS) (x1 : Int32) (cs9 : RS) (r9 : Int32), T.2.1 cs x1 = some (cs9, r9) → okI l dC dI cB cI cJ cZ h0 a K V fz yX12_workSelect (wsOf yX12_workSelect cX12_workSelect 5 (some .int)) (n + 304) [.ref h0, .int x1] cs cs9 r9) (hT_workSource : ∀ (cs : RS) (x1 : Int32) (cs9 : RS) (r9 : Int32), T.2.2 cs x1 = some (cs9, r9) → okI l dC dI cB cI cJ cZ h0 a K V fz yX12_workSource (wsOf yX12_workSource cX12_workSource 9 (some .int)) (n + 304) [.ref h0, .int x1] cs cs9 r9) (cs : RS) (x1 : Int32) (cs9 : RS) (r9 : Int32) (hf : b_workQuery F T cs x1 = some (cs9, r9)) : okI l dC dI cB cI cJ cZ h0 a K V fz yX12_workQuery (wsOf yX12_workQuery cX12_workQuery 5 (some .int)) (n + 1 + 304) [.ref h0, .int x1] cs cs9 r9 := by
  intro sz
  refine Met.ofW (cc := cX12_workQuery) (maxL := 5) (ret := (some .int)) (by decide) rfl ?_
  intro p e s m args below meth c s₁ B hml hv
  obtain ⟨rfl, hsz, hP, hK, hD0, hZ⟩ := hv
  have hx := B.exec
  have hb := B.bytes
  have hr := B.returns
  have hts := atoms_spec (ws := (wsOf yX12_workQuery cX12_workQuery 5 (some .int))) B.pre
  have hown : s.vm.findClass RX12 = some m.cls := findClass_of_methodNamed B.named
  have hlocks := B.notSynchronized
  subst hsz
  have hD := hD0.self (sz := s.heap.size)
  generalize hAe : va_A (mW cB cI cJ cZ h0 a cs) s.heap.size = A at hD hZ ⊢
  have hA : ∀ q : Nat, s.heap.size ≤ q → A q := fun q h => by rw [← hAe]; exact Or.inr h
  have hS : va_S A s.heap s.heap [] := va_S.rf
  have hl := lv_entry ([.ref h0, .int x1]) (n := 5) (Nat.le_of_ble_eq_true rfl)
  rw [lg_entry_eq]
  generalize (lg_sl ([.ref h0, .int x1]) ++ List.replicate (5 - (lg_sl ([.ref h0, .int x1])).length) Slot.unset).toArray = ls at hl ⊢
  have hl : lv_has ls 5 [(0, .ref h0), (1, .int x1)] := hl
  have B_85 : ∀ (cs1 : RS) (y0 : Int32), m_workQuery_b85 F T cs1 y0 = some (cs9, r9) → ∀ (H : Heap) (locs : List Loc) (ls : Array Slot), va_P (dC, dI) vwCl (mW cB cI cJ cZ h0 a cs1) H → va_D A (mW cB cI cJ cZ h0 a cs1) → va_S A s.heap H locs → lv_has ls 5 [] → W p l e (headSpec (wsOf yX12_workQuery cX12_workQuery 5 (some .int)) ({ frames := n + 1 + 304, cells := 0, slots := 0, locals := 60 * (n + 1 + 304) } : Room)).room s m ([.ref h0, .int x1] : List Value).toArray below meth c H locs 0 0 (MQ below (va_Qi (fun (x : Int32) (_ : Unit) => x = r9) (fun _ t_ => va_P (dC, dI) vwCl (mW cB cI cJ cZ h0 a cs9) t_.heap ∧ va_D A (mW cB cI cJ cZ h0 a cs9)) A) ([.ref h0, .int x1] : List Value).toArray s 0 0 A) (F0 m 85 ls [.int y0]) := by
    intro cs1 y0 h H locs ls hP hD hS hl
    unfold m_workQuery_b85 at h
    obtain ⟨e1, e2⟩ := Prod.mk.inj (Option.some.inj h)
    rw [e1] at hP hD
    exact W.iret (v := y0) hx hb hr (fun t_ ht hW => ⟨⟨y0, (), rfl, e2, by rw [ht]; exact hP, hD⟩, hS.F ht⟩) hS.2.2 dX12_workQuery_85
  have L_15 : ∀ (lf_15 : Nat), ∀ (cs1 : RS) (u1 : Int32) (u2 : Int32) (u3 : Int32), m_workQuery_L15 F T lf_15 cs1 u1 u2 u3 = some (cs9, r9) → ∀ (H : Heap) (locs : List Loc) (ls : Array Slot), va_P (dC, dI) vwCl (mW cB cI cJ cZ h0 a cs1) H → va_D A (mW cB cI cJ cZ h0 a cs1) → va_S A s.heap H locs → lv_has ls 5 [(0, .ref h0), (1, .int u1), (2, .int u2), (3, .int u3)] → W p l e (headSpec (wsOf yX12_workQuery cX12_workQuery 5 (some .int)) ({ frames := n + 1 + 304, cells := 0, slots := 0, locals := 60 * (n + 1 + 304) } : Room)).room s m ([.ref h0, .int x1] : List Value).toArray below meth c H locs 0 0 (MQ below (va_Qi (fun (x : Int32) (_ : Unit) => x = r9) (fun _ t_ => va_P (dC, dI) vwCl (mW cB cI cJ cZ h0 a cs9) t_.heap ∧ va_D A (mW cB cI cJ cZ h0 a cs9)) A) ([.ref h0, .int x1] : List Value).toArray s 0 0 A) (F0 m 15 ls []) := by
    intro lf_15
    induction lf_15 with
    | zero => intro cs1 u1 u2 u3 h; cases (show (none : Option (RS × Int32)) = _ from h)
    | succ lf_15 ih_15 =>
      intro cs1 u1 u2 u3 h H locs ls hP hD hS hl
      rw [m_workQuery_L15] at h
      refine lv_iload_n hx hb dX12_workQuery_15 rfl (lv_at hl 3 rfl) ?_
      refine lv_aload_n hx hb dX12_workQuery_16 rfl (lv_at hl 0 rfl) ?_
      refine fg_60 hx hb hts hown hK hP dX12_workQuery_17 ?_
      refine lv_iload_n hx hb dX12_workQuery_20 rfl (lv_at hl 1 rfl) ?_
      obtain ⟨v_1, hv_1, h⟩ := ob h
      refine ag_60 hx hb hK hP hv_1 dX12_workQuery_21 ?_
      refine lv_icmp_ge (tgt := 65) hx hb dX12_workQuery_22 (by decide) (fun c_2 => ?_) (fun c_2 => ?_)
      · skip
        replace h := (if_pos c_2).symm.trans h
        refine lv_aload_n hx hb dX12_workQuery_65 rfl (lv_at hl 0 rfl) ?_
        refine fg_65 hx hb hts hown hK hP dX12_workQuery_66 ?_
        refine lv_iload_n hx hb dX12_workQuery_69 rfl (lv_at hl 1 rfl) ?_
        obtain ⟨v_3, hv_3, h⟩ := ob h
        refine ag_65 hx hb hK hP hv_3 dX12_workQuery_70 ?_
        refine lv_iconst (v := (-1)) hx hb dX12_workQuery_71 (by decide) ?_
        refine lv_icmp_ne (tgt := 79) hx hb dX12_workQuery_72 (by decide) (fun c_4 => ?_) (fun c_4 => ?_)
        · skip
          replace h := (if_neg c_4).symm.trans h
          refine lv_aload_n hx hb dX12_workQuery_79 rfl (lv_at hl 0 rfl) ?_
          refine lv_iload_n hx hb dX12_workQuery_80 rfl (lv_at hl 1 rfl) ?_
          refine lv_iload_n hx hb dX12_workQuery_81 rfl (lv_at hl 2 rfl) ?_
          obtain ⟨z_5, hv_5, h⟩ := ob h
          refine calI (As := [.int u1, .int u2]) hx hb hml hts hown hK hP hD hS hA hZ (s_ordered l dC dI cB cI cJ cZ h0 a K V fz F cs1 u1 u2 z_5.1 z_5.2 hv_5) (cw_ordered hts (fr := 303) (by show 303 + 1 ≤ n + 1 + 304; omega) (by show 8 + (10 + 11) + 60 * (303) ≤ 60 * (n + 1 + 304); omega)) rfl hl.1 (Nat.le_of_ble_eq_true rfl) ⟨Nat.zero_le _, Nat.zero_le _⟩ dX12_workQuery_82 (fun H locs hP hD hS => ?_)
          exact B_85 z_5.1 z_5.2 h _ _ _ hP hD hS (lv_sub hl [] rfl)
        · skip
          replace h := (if_pos c_4).symm.trans h
          refine lv_iload_n hx hb dX12_workQuery_75 rfl (lv_at hl 2 rfl) ?_
          refine lv_goto (tgt := 85) hx hb dX12_workQuery_76 (by decide) ?_
          exact B_85 cs1 u2 h _ _ _ hP hD hS (lv_sub hl [] rfl)
      · skip
        replace h := (if_neg c_2).symm.trans h
        refine lv_aload_n hx hb dX12_workQuery_25 rfl (lv_at hl 0 rfl) ?_
        refine lv_aload_n hx hb dX12_workQuery_26 rfl (lv_at hl 0 rfl) ?_
        refine fg_61 hx hb hts hown hK hP dX12_workQuery_27 ?_
        refine lv_iconst (v := 5) hx hb dX12_workQuery_30 (by decide) ?_
        refine lv_iload_n hx hb dX12_workQuery_31 rfl (lv_at hl 1 rfl) ?_
        refine lv_imul hx hb dX12_workQuery_32 ?_
        refine lv_iload_n hx hb dX12_workQuery_33 rfl (lv_at hl 3 rfl) ?_
        refine lv_iadd hx hb dX12_workQuery_34 ?_
        obtain ⟨v_6, hv_6, h⟩ := ob h
        refine ag_61 hx hb hK hP hv_6 dX12_workQuery_35 ?_
        obtain ⟨z_7, hv_7, h⟩ := ob h
        refine calI (As := [.int v_6]) hx hb hml hts hown hK hP hD hS hA hZ (hT_workSelect cs1 v_6 z_7.1 z_7.2 hv_7) (cw_workSelect hts (fr := n + 304) (by show n + 304 + 1 ≤ n + 1 + 304; omega) (by show 8 + (5 + 11) + 60 * (n + 304) ≤ 60 * (n + 1 + 304); omega)) rfl hl.1 (Nat.le_of_ble_eq_true rfl) ⟨Nat.zero_le _, Nat.zero_le _⟩ dX12_workQuery_36 (fun H locs hP hD hS => ?_)
        refine lv_istore (lv' := [(4, .int z_7.2), (0, .ref h0), (1, .int u1), (2, .int u2), (3, .int u3)]) hx hb dX12_workQuery_39 hl (by decide) rfl (fun ls hl => ?_)
        refine lv_aload_n hx hb dX12_workQuery_41 rfl (lv_at hl 1 rfl) ?_
        refine lv_aload_n hx hb dX12_workQuery_42 rfl (lv_at hl 1 rfl) ?_
        refine fg_62 hx hb hts hown hK hP dX12_workQuery_43 ?_
        refine lv_iconst (v := 5) hx hb dX12_workQuery_46 (by decide) ?_
        refine lv_iload_n hx hb dX12_workQuery_47 rfl (lv_at hl 2 rfl) ?_
        refine lv_imul hx hb dX12_workQuery_48 ?_
        refine lv_iload_n hx hb dX12_workQuery_49 rfl (lv_at hl 4 rfl) ?_
        refine lv_iadd hx hb dX12_workQuery_50 ?_
        obtain ⟨v_8, hv_8, h⟩ := ob h
        refine ag_62 hx hb hK hP hv_8 dX12_workQuery_51 ?_
        refine lv_iload_n hx hb dX12_workQuery_52 rfl (lv_at hl 3 rfl) ?_
        refine lv_iload hx hb dX12_workQuery_53 (lv_at hl 0 rfl) ?_
        obtain ⟨z_9, hv_9, h⟩ := ob h
        refine calI (As := [.int v_8, .int u2, .int z_7.2]) hx hb hml hts hown hK hP hD hS hA hZ (s_setOf l dC dI cB cI cJ cZ h0 a K V fz F z_7.1 v_8 u2 z_7.2 z_9.1 z_9.2 hv_9) (cw_setOf hts (fr := 3) (by show 3 + 1 ≤ n + 1 + 304; omega) (by show 8 + (9 + 11) + 60 * (3) ≤ 60 * (n + 1 + 304); omega)) rfl hl.1 (Nat.le_of_ble_eq_true rfl) ⟨Nat.zero_le _, Nat.zero_le _⟩ dX12_workQuery_55 (fun H locs hP hD hS => ?_)
        refine lv_istore_n (lv' := [(2, .int z_9.2), (4, .int z_7.2), (0, .ref h0), (1, .int u1), (3, .int u3)]) hx hb dX12_workQuery_58 rfl hl (by decide) rfl (fun ls hl => ?_)
        refine lv_iinc (v := u3 + 1) (lv' := [(3, .int (u3 + 1)), (2, .int z_9.2), (4, .int z_7.2), (0, .ref h0), (1, .int u1)]) hx hb dX12_workQuery_59 hl (k := 4) rfl rfl (by decide) rfl (fun ls hl => ?_)
        refine lv_goto (tgt := 15) hx hb dX12_workQuery_62 (by decide) ?_
        exact ih_15 z_9.1 u1 z_9.2 (u3 + 1) h _ _ _ hP hD hS (lv_sub hl [3, 4, 1, 0] rfl)
  have h := hf
  unfold b_workQuery at h
  refine lv_aload_n hx hb dX12_workQuery_0 rfl (lv_at hl 0 rfl) ?_
  refine lv_aload_n hx hb dX12_workQuery_1 rfl (lv_at hl 0 rfl) ?_
  refine fg_61 hx hb hts hown hK hP dX12_workQuery_2 ?_
  refine lv_iconst (v := 5) hx hb dX12_workQuery_5 (by decide) ?_
  refine lv_iload_n hx hb dX12_workQuery_6 rfl (lv_at hl 1 rfl) ?_
  refine lv_imul hx hb dX12_workQuery_7 ?_
  obtain ⟨v_10, hv_10, h⟩ := ob h
  refine ag_61 hx hb hK hP hv_10 dX12_workQuery_8 ?_
  obtain ⟨z_11, hv_11, h⟩ := ob h
  refine calI (As := [.int v_10]) hx hb hml hts hown hK hP hD hS hA hZ (hT_workSelect cs v_10 z_11.1 z_11.2 hv_11) (cw_workSelect hts (fr := n + 304) (by show n + 304 + 1 ≤ n + 1 + 304; omega) (by show 8 + (5 + 11) + 60 * (n + 304) ≤ 60 * (n + 1 + 304); omega)) rfl hl.1 (Nat.le_of_ble_eq_true rfl) ⟨Nat.zero_le _, Nat.zero_le _⟩ dX12_workQuery_9 (fun H locs hP hD hS => ?_)
  refine lv_istore_n (lv' := [(2, .int z_11.2), (0, .ref h0), (1, .int x1)]) hx hb dX12_workQuery_12 rfl hl (by decide) rfl (fun ls hl => ?_)
  refine lv_iconst (v := 1) hx hb dX12_workQuery_13 (by decide) ?_
  refine lv_istore_n (lv' := [(3, .int 1), (2, .int z_11.2), (0, .ref h0), (1, .int x1)]) hx hb dX12_workQuery_14 rfl hl (by decide) rfl (fun ls hl => ?_)
  exact L_15 F z_11.1 x1 z_11.2 1 h _ _ _ hP hD hS (lv_sub hl [2, 3, 1, 0] rfl)
set_option maxHeartbeats 4000000 in
set_option maxRecDepth 100000 in
theorem sb_workSelect (l : Launch) (dC : Nat → ClassId) (dI : Nat → Nat → Nat) (cB cI cJ cZ : ClassId) (h0 : Nat) (a : Nat → Nat) (K V : Nat → Nat) (fz : Value) (F : Nat) (n : Nat) (T : TG_workQuery) (hT_workQuery : ∀ (cs : RS) (x1 : Int32) (cs9 : RS) (r9 : Int32), T.1 cs x1 = some (cs9, r9) → okI l dC dI cB cI cJ cZ h0 a K V fz yX12_workQuery (wsOf yX12_workQuery cX12_workQuery 5 (some .int)) (n + 304) [.ref h0, .int x1] cs cs9 r9) (hT_workSelect : ∀ (cs : RS) (x1 : Int32) (cs9 : RS) (r9 : Int32), T.2.1 cs x1 = some (cs9, r9) → okI l dC dI cB cI cJ cZ h0 a K V fz yX12_workSelect (wsOf yX12_workSelect cX12_workSelect 5 (some .int)) (n + 304) [.ref h0, .int x1] cs cs9 r9) (hT_workSource : ∀ (cs : RS) (x1 : Int32) (cs9 : RS) (r9 : Int32), T.2.2 cs x1 = some (cs9, r9) → okI l dC dI cB cI cJ cZ h0 a K V fz yX12_workSource (wsOf yX12_workSource cX12_workSource 9 (some .int)) (n + 304) [.ref h0, .int x1] cs cs9 r9) (cs : RS) (x1 : Int32) (cs9 : RS) (r9 : Int32) (hf : b_workSelect F T cs x1 = some (cs9, r9)) : okI l dC dI cB cI cJ cZ h0 a K V fz yX12_workSelect (wsOf yX12_workSelect cX12_workSelect 5 (some .int)) (n + 1 + 304) [.ref h0, .int x1] cs cs9 r9 := by
  intro sz
  refine Met.ofW (cc := cX12_workSelect) (maxL := 5) (ret := (some .int)) (by decide) rfl ?_
  intro p e s m args below meth c s₁ B hml hv
  obtain ⟨rfl, hsz, hP, hK, hD0, hZ⟩ := hv
  have hx := B.exec
  have hb := B.bytes
  have hr := B.returns
  have hts := atoms_spec (ws := (wsOf yX12_workSelect cX12_workSelect 5 (some .int))) B.pre
  have hown : s.vm.findClass RX12 = some m.cls := findClass_of_methodNamed B.named
  have hlocks := B.notSynchronized
  subst hsz
  have hD := hD0.self (sz := s.heap.size)
  generalize hAe : va_A (mW cB cI cJ cZ h0 a cs) s.heap.size = A at hD hZ ⊢
  have hA : ∀ q : Nat, s.heap.size ≤ q → A q := fun q h => by rw [← hAe]; exact Or.inr h
  have hS : va_S A s.heap s.heap [] := va_S.rf
  have hl := lv_entry ([.ref h0, .int x1]) (n := 5) (Nat.le_of_ble_eq_true rfl)
  rw [lg_entry_eq]
  generalize (lg_sl ([.ref h0, .int x1]) ++ List.replicate (5 - (lg_sl ([.ref h0, .int x1])).length) Slot.unset).toArray = ls at hl ⊢
  have hl : lv_has ls 5 [(0, .ref h0), (1, .int x1)] := hl
  have B_155 : ∀ (cs1 : RS) (y0 : Int32), m_workSelect_b155 F T cs1 y0 = some (cs9, r9) → ∀ (H : Heap) (locs : List Loc) (ls : Array Slot), va_P (dC, dI) vwCl (mW cB cI cJ cZ h0 a cs1) H → va_D A (mW cB cI cJ cZ h0 a cs1) → va_S A s.heap H locs → lv_has ls 5 [] → W p l e (headSpec (wsOf yX12_workSelect cX12_workSelect 5 (some .int)) ({ frames := n + 1 + 304, cells := 0, slots := 0, locals := 60 * (n + 1 + 304) } : Room)).room s m ([.ref h0, .int x1] : List Value).toArray below meth c H locs 0 0 (MQ below (va_Qi (fun (x : Int32) (_ : Unit) => x = r9) (fun _ t_ => va_P (dC, dI) vwCl (mW cB cI cJ cZ h0 a cs9) t_.heap ∧ va_D A (mW cB cI cJ cZ h0 a cs9)) A) ([.ref h0, .int x1] : List Value).toArray s 0 0 A) (F0 m 155 ls [.int y0]) := by
    intro cs1 y0 h H locs ls hP hD hS hl
    unfold m_workSelect_b155 at h
    obtain ⟨e1, e2⟩ := Prod.mk.inj (Option.some.inj h)
    rw [e1] at hP hD
    exact W.iret (v := y0) hx hb hr (fun t_ ht hW => ⟨⟨y0, (), rfl, e2, by rw [ht]; exact hP, hD⟩, hS.F ht⟩) hS.2.2 dX12_workSelect_155
  have B_135 : ∀ (cs1 : RS) (u1 : Int32) (y0 : Int32), m_workSelect_b135 F T cs1 u1 y0 = some (cs9, r9) → ∀ (H : Heap) (locs : List Loc) (ls : Array Slot), va_P (dC, dI) vwCl (mW cB cI cJ cZ h0 a cs1) H → va_D A (mW cB cI cJ cZ h0 a cs1) → va_S A s.heap H locs → lv_has ls 5 [(0, .ref h0), (1, .int u1)] → W p l e (headSpec (wsOf yX12_workSelect cX12_workSelect 5 (some .int)) ({ frames := n + 1 + 304, cells := 0, slots := 0, locals := 60 * (n + 1 + 304) } : Room)).room s m ([.ref h0, .int x1] : List Value).toArray below meth c H locs 0 0 (MQ below (va_Qi (fun (x : Int32) (_ : Unit) => x = r9) (fun _ t_ => va_P (dC, dI) vwCl (mW cB cI cJ cZ h0 a cs9) t_.heap ∧ va_D A (mW cB cI cJ cZ h0 a cs9)) A) ([.ref h0, .int x1] : List Value).toArray s 0 0 A) (F0 m 135 ls [.int y0]) := by
    intro cs1 u1 y0 h H locs ls hP hD hS hl
    unfold m_workSelect_b135 at h
    refine lv_istore_n (lv' := [(3, .int y0), (0, .ref h0), (1, .int u1)]) hx hb dX12_workSelect_135 rfl hl (by decide) rfl (fun ls hl => ?_)
    refine lv_aload_n hx hb dX12_workSelect_136 rfl (lv_at hl 1 rfl) ?_
    refine fg_35 hx hb hts hown hK hP dX12_workSelect_137 ?_
    refine lv_iload_n hx hb dX12_workSelect_140 rfl (lv_at hl 2 rfl) ?_
    obtain ⟨v_1, hv_1, h⟩ := ob h
    refine ag_35 hx hb hK hP hv_1 dX12_workSelect_141 ?_
    refine lv_iconst (v := (-1)) hx hb dX12_workSelect_142 (by decide) ?_
    refine lv_icmp_eq (tgt := 154) hx hb dX12_workSelect_143 (by decide) (fun c_2 => ?_) (fun c_2 => ?_)
    · skip
      replace h := (if_pos c_2).symm.trans h
      refine lv_iload_n hx hb dX12_workSelect_154 rfl (lv_at hl 0 rfl) ?_
      exact B_155 cs1 y0 h _ _ _ hP hD hS (lv_sub hl [] rfl)
    · skip
      replace h := (if_neg c_2).symm.trans h
      refine lv_aload_n hx hb dX12_workSelect_146 rfl (lv_at hl 1 rfl) ?_
      refine lv_iload_n hx hb dX12_workSelect_147 rfl (lv_at hl 0 rfl) ?_
      obtain ⟨z_3, hv_3, h⟩ := ob h
      refine calI (As := [.int y0]) hx hb hml hts hown hK hP hD hS hA hZ (s_once l dC dI cB cI cJ cZ h0 a K V fz F cs1 y0 z_3.1 z_3.2 hv_3) (cw_once hts (fr := 3) (by show 3 + 1 ≤ n + 1 + 304; omega) (by show 8 + (4 + 11) + 60 * (3) ≤ 60 * (n + 1 + 304); omega)) rfl hl.1 (Nat.le_of_ble_eq_true rfl) ⟨Nat.zero_le _, Nat.zero_le _⟩ dX12_workSelect_148 (fun H locs hP hD hS => ?_)
      refine lv_goto (tgt := 155) hx hb dX12_workSelect_151 (by decide) ?_
      exact B_155 z_3.1 z_3.2 h _ _ _ hP hD hS (lv_sub hl [] rfl)
  have B_112 : ∀ (cs1 : RS) (u1 : Int32) (u2 : Int32), m_workSelect_b112 F T cs1 u1 u2 = some (cs9, r9) → ∀ (H : Heap) (locs : List Loc) (ls : Array Slot), va_P (dC, dI) vwCl (mW cB cI cJ cZ h0 a cs1) H → va_D A (mW cB cI cJ cZ h0 a cs1) → va_S A s.heap H locs → lv_has ls 5 [(0, .ref h0), (1, .int u1), (2, .int u2)] → W p l e (headSpec (wsOf yX12_workSelect cX12_workSelect 5 (some .int)) ({ frames := n + 1 + 304, cells := 0, slots := 0, locals := 60 * (n + 1 + 304) } : Room)).room s m ([.ref h0, .int x1] : List Value).toArray below meth c H locs 0 0 (MQ below (va_Qi (fun (x : Int32) (_ : Unit) => x = r9) (fun _ t_ => va_P (dC, dI) vwCl (mW cB cI cJ cZ h0 a cs9) t_.heap ∧ va_D A (mW cB cI cJ cZ h0 a cs9)) A) ([.ref h0, .int x1] : List Value).toArray s 0 0 A) (F0 m 112 ls []) := by
    intro cs1 u1 u2 h H locs ls hP hD hS hl
    unfold m_workSelect_b112 at h
    refine lv_aload_n hx hb dX12_workSelect_112 rfl (lv_at hl 0 rfl) ?_
    refine lv_iload_n hx hb dX12_workSelect_113 rfl (lv_at hl 1 rfl) ?_
    obtain ⟨v_4, hv_4, h⟩ := ob h
    refine calI (As := [.int u1]) hx hb hml hts hown hK hP hD hS hA hZ (s_isGrouped l dC dI cB cI cJ cZ h0 a K V fz F cs1 u1 v_4 hv_4) (cw_isGrouped hts (fr := 0) (by show 0 + 1 ≤ n + 1 + 304; omega) (by show 8 + (2 + 11) + 60 * (0) ≤ 60 * (n + 1 + 304); omega)) rfl hl.1 (Nat.le_of_ble_eq_true rfl) ⟨Nat.zero_le _, Nat.zero_le _⟩ dX12_workSelect_114 (fun H locs hP hD hS => ?_)
    refine lv_if_eq (tgt := 129) hx hb dX12_workSelect_117 (by decide) (fun c_5 => ?_) (fun c_5 => ?_)
    · skip
      replace h := (if_pos c_5).symm.trans h
      refine lv_aload_n hx hb dX12_workSelect_129 rfl (lv_at hl 0 rfl) ?_
      refine lv_iload_n hx hb dX12_workSelect_130 rfl (lv_at hl 1 rfl) ?_
      refine lv_iload_n hx hb dX12_workSelect_131 rfl (lv_at hl 2 rfl) ?_
      obtain ⟨z_6, hv_6, h⟩ := ob h
      refine calI (As := [.int u1, .int u2]) hx hb hml hts hown hK hP hD hS hA hZ (s_plain l dC dI cB cI cJ cZ h0 a K V fz F cs1 u1 u2 z_6.1 z_6.2 hv_6) (cw_plain hts (fr := 303) (by show 303 + 1 ≤ n + 1 + 304; omega) (by show 8 + (7 + 11) + 60 * (303) ≤ 60 * (n + 1 + 304); omega)) rfl hl.1 (Nat.le_of_ble_eq_true rfl) ⟨Nat.zero_le _, Nat.zero_le _⟩ dX12_workSelect_132 (fun H locs hP hD hS => ?_)
      exact B_135 z_6.1 u1 z_6.2 h _ _ _ hP hD hS (lv_sub hl [0, 1] rfl)
    · skip
      replace h := (if_neg c_5).symm.trans h
      refine lv_aload_n hx hb dX12_workSelect_120 rfl (lv_at hl 0 rfl) ?_
      refine lv_iload_n hx hb dX12_workSelect_121 rfl (lv_at hl 1 rfl) ?_
      refine lv_iload_n hx hb dX12_workSelect_122 rfl (lv_at hl 2 rfl) ?_
      obtain ⟨z_7, hv_7, h⟩ := ob h
      refine calI (As := [.int u1, .int u2]) hx hb hml hts hown hK hP hD hS hA hZ (s_grouped l dC dI cB cI cJ cZ h0 a K V fz F cs1 u1 u2 z_7.1 z_7.2 hv_7) (cw_grouped hts (fr := 303) (by show 303 + 1 ≤ n + 1 + 304; omega) (by show 8 + (10 + 11) + 60 * (303) ≤ 60 * (n + 1 + 304); omega)) rfl hl.1 (Nat.le_of_ble_eq_true rfl) ⟨Nat.zero_le _, Nat.zero_le _⟩ dX12_workSelect_123 (fun H locs hP hD hS => ?_)
      refine lv_goto (tgt := 135) hx hb dX12_workSelect_126 (by decide) ?_
      exact B_135 z_7.1 u1 z_7.2 h _ _ _ hP hD hS (lv_sub hl [0, 1] rfl)
  have B_82 : ∀ (cs1 : RS) (u1 : Int32) (u2 : Int32), m_workSelect_b82 F T cs1 u1 u2 = some (cs9, r9) → ∀ (H : Heap) (locs : List Loc) (ls : Array Slot), va_P (dC, dI) vwCl (mW cB cI cJ cZ h0 a cs1) H → va_D A (mW cB cI cJ cZ h0 a cs1) → va_S A s.heap H locs → lv_has ls 5 [(0, .ref h0), (1, .int u1), (2, .int u2)] → W p l e (headSpec (wsOf yX12_workSelect cX12_workSelect 5 (some .int)) ({ frames := n + 1 + 304, cells := 0, slots := 0, locals := 60 * (n + 1 + 304) } : Room)).room s m ([.ref h0, .int x1] : List Value).toArray below meth c H locs 0 0 (MQ below (va_Qi (fun (x : Int32) (_ : Unit) => x = r9) (fun _ t_ => va_P (dC, dI) vwCl (mW cB cI cJ cZ h0 a cs9) t_.heap ∧ va_D A (mW cB cI cJ cZ h0 a cs9)) A) ([.ref h0, .int x1] : List Value).toArray s 0 0 A) (F0 m 82 ls []) := by
    intro cs1 u1 u2 h H locs ls hP hD hS hl
    unfold m_workSelect_b82 at h
    refine lv_aload_n hx hb dX12_workSelect_82 rfl (lv_at hl 0 rfl) ?_
    refine lv_iload_n hx hb dX12_workSelect_83 rfl (lv_at hl 1 rfl) ?_
    obtain ⟨v_8, hv_8, h⟩ := ob h
    refine calI (As := [.int u1]) hx hb hml hts hown hK hP hD hS hA hZ (s_isGrouped l dC dI cB cI cJ cZ h0 a K V fz F cs1 u1 v_8 hv_8) (cw_isGrouped hts (fr := 0) (by show 0 + 1 ≤ n + 1 + 304; omega) (by show 8 + (2 + 11) + 60 * (0) ≤ 60 * (n + 1 + 304); omega)) rfl hl.1 (Nat.le_of_ble_eq_true rfl) ⟨Nat.zero_le _, Nat.zero_le _⟩ dX12_workSelect_84 (fun H locs hP hD hS => ?_)
    refine lv_if_ne (tgt := 112) hx hb dX12_workSelect_87 (by decide) (fun c_9 => ?_) (fun c_9 => ?_)
    · skip
      replace h := (if_neg c_9).symm.trans h
      exact B_112 cs1 u1 u2 h _ _ _ hP hD hS (lv_sub hl [0, 1, 2] rfl)
    · skip
      replace h := (if_pos c_9).symm.trans h
      refine lv_aload_n hx hb dX12_workSelect_90 rfl (lv_at hl 0 rfl) ?_
      refine fg_41 hx hb hts hown hK hP dX12_workSelect_91 ?_
      refine lv_iload_n hx hb dX12_workSelect_94 rfl (lv_at hl 1 rfl) ?_
      obtain ⟨v_10, hv_10, h⟩ := ob h
      refine ag_41 hx hb hK hP hv_10 dX12_workSelect_95 ?_
      refine lv_iconst (v := (-1)) hx hb dX12_workSelect_96 (by decide) ?_
      refine lv_icmp_eq (tgt := 112) hx hb dX12_workSelect_97 (by decide) (fun c_11 => ?_) (fun c_11 => ?_)
      · skip
        replace h := (if_pos c_11).symm.trans h
        exact B_112 cs1 u1 u2 h _ _ _ hP hD hS (lv_sub hl [0, 1, 2] rfl)
      · skip
        replace h := (if_neg c_11).symm.trans h
        refine lv_aload_n hx hb dX12_workSelect_100 rfl (lv_at hl 0 rfl) ?_
        refine lv_iload_n hx hb dX12_workSelect_101 rfl (lv_at hl 2 rfl) ?_
        refine lv_aload_n hx hb dX12_workSelect_102 rfl (lv_at hl 0 rfl) ?_
        refine fg_41 hx hb hts hown hK hP dX12_workSelect_103 ?_
        refine lv_iload_n hx hb dX12_workSelect_106 rfl (lv_at hl 1 rfl) ?_
        obtain ⟨v_12, hv_12, h⟩ := ob h
        refine ag_41 hx hb hK hP hv_12 dX12_workSelect_107 ?_
        obtain ⟨z_13, hv_13, h⟩ := ob h
        refine calI (As := [.int u2, .int v_12]) hx hb hml hts hown hK hP hD hS hA hZ (s_filter l dC dI cB cI cJ cZ h0 a K V fz F cs1 u2 v_12 z_13.1 z_13.2 hv_13) (cw_filter hts (fr := 303) (by show 303 + 1 ≤ n + 1 + 304; omega) (by show 8 + (6 + 11) + 60 * (303) ≤ 60 * (n + 1 + 304); omega)) rfl hl.1 (Nat.le_of_ble_eq_true rfl) ⟨Nat.zero_le _, Nat.zero_le _⟩ dX12_workSelect_108 (fun H locs hP hD hS => ?_)
        refine lv_istore_n (lv' := [(2, .int z_13.2), (0, .ref h0), (1, .int u1)]) hx hb dX12_workSelect_111 rfl hl (by decide) rfl (fun ls hl => ?_)
        exact B_112 z_13.1 u1 z_13.2 h _ _ _ hP hD hS (lv_sub hl [1, 2, 0] rfl)
  have L_10 : ∀ (lf_10 : Nat), ∀ (cs1 : RS) (u1 : Int32) (u2 : Int32) (u3 : Int32), m_workSelect_L10 F T lf_10 cs1 u1 u2 u3 = some (cs9, r9) → ∀ (H : Heap) (locs : List Loc) (ls : Array Slot), va_P (dC, dI) vwCl (mW cB cI cJ cZ h0 a cs1) H → va_D A (mW cB cI cJ cZ h0 a cs1) → va_S A s.heap H locs → lv_has ls 5 [(0, .ref h0), (1, .int u1), (2, .int u2), (3, .int u3)] → W p l e (headSpec (wsOf yX12_workSelect cX12_workSelect 5 (some .int)) ({ frames := n + 1 + 304, cells := 0, slots := 0, locals := 60 * (n + 1 + 304) } : Room)).room s m ([.ref h0, .int x1] : List Value).toArray below meth c H locs 0 0 (MQ below (va_Qi (fun (x : Int32) (_ : Unit) => x = r9) (fun _ t_ => va_P (dC, dI) vwCl (mW cB cI cJ cZ h0 a cs9) t_.heap ∧ va_D A (mW cB cI cJ cZ h0 a cs9)) A) ([.ref h0, .int x1] : List Value).toArray s 0 0 A) (F0 m 10 ls []) := by
    intro lf_10
    induction lf_10 with
    | zero => intro cs1 u1 u2 u3 h; cases (show (none : Option (RS × Int32)) = _ from h)
    | succ lf_10 ih_10 =>
      intro cs1 u1 u2 u3 h H locs ls hP hD hS hl
      rw [m_workSelect_L10] at h
      refine lv_iload_n hx hb dX12_workSelect_10 rfl (lv_at hl 3 rfl) ?_
      refine lv_aload_n hx hb dX12_workSelect_11 rfl (lv_at hl 0 rfl) ?_
      refine fg_37 hx hb hts hown hK hP dX12_workSelect_12 ?_
      refine lv_iload_n hx hb dX12_workSelect_15 rfl (lv_at hl 1 rfl) ?_
      obtain ⟨v_14, hv_14, h⟩ := ob h
      refine ag_37 hx hb hK hP hv_14 dX12_workSelect_16 ?_
      refine lv_icmp_ge (tgt := 55) hx hb dX12_workSelect_17 (by decide) (fun c_15 => ?_) (fun c_15 => ?_)
      · skip
        replace h := (if_pos c_15).symm.trans h
        refine lv_aload_n hx hb dX12_workSelect_55 rfl (lv_at hl 0 rfl) ?_
        refine lv_iconst (v := 0) hx hb dX12_workSelect_56 (by decide) ?_
        refine fp_97 hx hb hts hown hK hP hD hS (Or.inl rfl) dX12_workSelect_57 (fun H locs hP hD hS => ?_)
        refine lv_aload_n hx hb dX12_workSelect_60 rfl (lv_at hl 0 rfl) ?_
        refine fg_38 hx hb hts hown hK hP dX12_workSelect_61 ?_
        refine lv_iload_n hx hb dX12_workSelect_64 rfl (lv_at hl 1 rfl) ?_
        obtain ⟨v_16, hv_16, h⟩ := ob h
        refine ag_38 hx hb hK hP hv_16 dX12_workSelect_65 ?_
        refine lv_iconst (v := (-1)) hx hb dX12_workSelect_66 (by decide) ?_
        refine lv_icmp_eq (tgt := 82) hx hb dX12_workSelect_67 (by decide) (fun c_17 => ?_) (fun c_17 => ?_)
        · skip
          replace h := (if_pos c_17).symm.trans h
          exact B_82 (setF cs1 97 0) u1 u2 h _ _ _ hP hD hS (lv_sub hl [0, 1, 2] rfl)
        · skip
          replace h := (if_neg c_17).symm.trans h
          refine lv_aload_n hx hb dX12_workSelect_70 rfl (lv_at hl 0 rfl) ?_
          refine lv_iload_n hx hb dX12_workSelect_71 rfl (lv_at hl 2 rfl) ?_
          refine lv_aload_n hx hb dX12_workSelect_72 rfl (lv_at hl 0 rfl) ?_
          refine fg_38 hx hb hts hown hK hP dX12_workSelect_73 ?_
          refine lv_iload_n hx hb dX12_workSelect_76 rfl (lv_at hl 1 rfl) ?_
          obtain ⟨v_18, hv_18, h⟩ := ob h
          refine ag_38 hx hb hK hP hv_18 dX12_workSelect_77 ?_
          obtain ⟨z_19, hv_19, h⟩ := ob h
          refine calI (As := [.int u2, .int v_18]) hx hb hml hts hown hK hP hD hS hA hZ (s_filter l dC dI cB cI cJ cZ h0 a K V fz F (setF cs1 97 0) u2 v_18 z_19.1 z_19.2 hv_19) (cw_filter hts (fr := 303) (by show 303 + 1 ≤ n + 1 + 304; omega) (by show 8 + (6 + 11) + 60 * (303) ≤ 60 * (n + 1 + 304); omega)) rfl hl.1 (Nat.le_of_ble_eq_true rfl) ⟨Nat.zero_le _, Nat.zero_le _⟩ dX12_workSelect_78 (fun H locs hP hD hS => ?_)
          refine lv_istore_n (lv' := [(2, .int z_19.2), (0, .ref h0), (1, .int u1), (3, .int u3)]) hx hb dX12_workSelect_81 rfl hl (by decide) rfl (fun ls hl => ?_)
          exact B_82 z_19.1 u1 z_19.2 h _ _ _ hP hD hS (lv_sub hl [1, 2, 0] rfl)
      · skip
        replace h := (if_neg c_15).symm.trans h
        refine lv_aload_n hx hb dX12_workSelect_20 rfl (lv_at hl 0 rfl) ?_
        refine lv_iconst (v := 3) hx hb dX12_workSelect_21 (by decide) ?_
        refine lv_iload_n hx hb dX12_workSelect_22 rfl (lv_at hl 1 rfl) ?_
        refine lv_imul hx hb dX12_workSelect_23 ?_
        refine lv_iload_n hx hb dX12_workSelect_24 rfl (lv_at hl 3 rfl) ?_
        refine lv_iadd hx hb dX12_workSelect_25 ?_
        obtain ⟨z_20, hv_20, h⟩ := ob h
        refine calI (As := [.int ((3 * u1) + u3)]) hx hb hml hts hown hK hP hD hS hA hZ (hT_workSource cs1 ((3 * u1) + u3) z_20.1 z_20.2 hv_20) (cw_workSource hts (fr := n + 304) (by show n + 304 + 1 ≤ n + 1 + 304; omega) (by show 8 + (9 + 11) + 60 * (n + 304) ≤ 60 * (n + 1 + 304); omega)) rfl hl.1 (Nat.le_of_ble_eq_true rfl) ⟨Nat.zero_le _, Nat.zero_le _⟩ dX12_workSelect_26 (fun H locs hP hD hS => ?_)
        refine lv_istore (lv' := [(4, .int z_20.2), (0, .ref h0), (1, .int u1), (2, .int u2), (3, .int u3)]) hx hb dX12_workSelect_29 hl (by decide) rfl (fun ls hl => ?_)
        refine lv_aload_n hx hb dX12_workSelect_31 rfl (lv_at hl 1 rfl) ?_
        refine lv_iconst (v := 0) hx hb dX12_workSelect_32 (by decide) ?_
        refine fp_97 hx hb hts hown hK hP hD hS (Or.inl rfl) dX12_workSelect_33 (fun H locs hP hD hS => ?_)
        refine lv_aload_n hx hb dX12_workSelect_36 rfl (lv_at hl 1 rfl) ?_
        refine lv_iload_n hx hb dX12_workSelect_37 rfl (lv_at hl 3 rfl) ?_
        refine lv_iload hx hb dX12_workSelect_38 (lv_at hl 0 rfl) ?_
        refine lv_iconst (v := 3) hx hb dX12_workSelect_40 (by decide) ?_
        refine lv_iload_n hx hb dX12_workSelect_41 rfl (lv_at hl 2 rfl) ?_
        refine lv_imul hx hb dX12_workSelect_42 ?_
        refine lv_iload_n hx hb dX12_workSelect_43 rfl (lv_at hl 4 rfl) ?_
        refine lv_iadd hx hb dX12_workSelect_44 ?_
        obtain ⟨z_21, hv_21, h⟩ := ob h
        refine calI (As := [.int u2, .int z_20.2, .int ((3 * u1) + u3)]) hx hb hml hts hown hK hP hD hS hA hZ (s_join l dC dI cB cI cJ cZ h0 a K V fz F (setF z_20.1 97 0) u2 z_20.2 ((3 * u1) + u3) z_21.1 z_21.2 hv_21) (cw_join hts (fr := 303) (by show 303 + 1 ≤ n + 1 + 304; omega) (by show 8 + (11 + 11) + 60 * (303) ≤ 60 * (n + 1 + 304); omega)) rfl hl.1 (Nat.le_of_ble_eq_true rfl) ⟨Nat.zero_le _, Nat.zero_le _⟩ dX12_workSelect_45 (fun H locs hP hD hS => ?_)
        refine lv_istore_n (lv' := [(2, .int z_21.2), (4, .int z_20.2), (0, .ref h0), (1, .int u1), (3, .int u3)]) hx hb dX12_workSelect_48 rfl hl (by decide) rfl (fun ls hl => ?_)
        refine lv_iinc (v := u3 + 1) (lv' := [(3, .int (u3 + 1)), (2, .int z_21.2), (4, .int z_20.2), (0, .ref h0), (1, .int u1)]) hx hb dX12_workSelect_49 hl (k := 4) rfl rfl (by decide) rfl (fun ls hl => ?_)
        refine lv_goto (tgt := 10) hx hb dX12_workSelect_52 (by decide) ?_
        exact ih_10 z_21.1 u1 z_21.2 (u3 + 1) h _ _ _ hP hD hS (lv_sub hl [3, 4, 1, 0] rfl)
  have h := hf
  unfold b_workSelect at h
  refine lv_aload_n hx hb dX12_workSelect_0 rfl (lv_at hl 0 rfl) ?_
  refine lv_iconst (v := 3) hx hb dX12_workSelect_1 (by decide) ?_
  refine lv_iload_n hx hb dX12_workSelect_2 rfl (lv_at hl 1 rfl) ?_
  refine lv_imul hx hb dX12_workSelect_3 ?_
  obtain ⟨z_22, hv_22, h⟩ := ob h
  refine calI (As := [.int (3 * x1)]) hx hb hml hts hown hK hP hD hS hA hZ (hT_workSource cs (3 * x1) z_22.1 z_22.2 hv_22) (cw_workSource hts (fr := n + 304) (by show n + 304 + 1 ≤ n + 1 + 304; omega) (by show 8 + (9 + 11) + 60 * (n + 304) ≤ 60 * (n + 1 + 304); omega)) rfl hl.1 (Nat.le_of_ble_eq_true rfl) ⟨Nat.zero_le _, Nat.zero_le _⟩ dX12_workSelect_4 (fun H locs hP hD hS => ?_)
  refine lv_istore_n (lv' := [(2, .int z_22.2), (0, .ref h0), (1, .int x1)]) hx hb dX12_workSelect_7 rfl hl (by decide) rfl (fun ls hl => ?_)
  refine lv_iconst (v := 1) hx hb dX12_workSelect_8 (by decide) ?_
  refine lv_istore_n (lv' := [(3, .int 1), (2, .int z_22.2), (0, .ref h0), (1, .int x1)]) hx hb dX12_workSelect_9 rfl hl (by decide) rfl (fun ls hl => ?_)
  exact L_10 F z_22.1 x1 z_22.2 1 h _ _ _ hP hD hS (lv_sub hl [2, 3, 1, 0] rfl)
set_option maxHeartbeats 4000000 in
set_option maxRecDepth 100000 in
theorem sb_workSource (l : Launch) (dC : Nat → ClassId) (dI : Nat → Nat → Nat) (cB cI cJ cZ : ClassId) (h0 : Nat) (a : Nat → Nat) (K V : Nat → Nat) (fz : Value) (F : Nat) (n : Nat) (T : TG_workQuery) (hT_workQuery : ∀ (cs : RS) (x1 : Int32) (cs9 : RS) (r9 : Int32), T.1 cs x1 = some (cs9, r9) → okI l dC dI cB cI cJ cZ h0 a K V fz yX12_workQuery (wsOf yX12_workQuery cX12_workQuery 5 (some .int)) (n + 304) [.ref h0, .int x1] cs cs9 r9) (hT_workSelect : ∀ (cs : RS) (x1 : Int32) (cs9 : RS) (r9 : Int32), T.2.1 cs x1 = some (cs9, r9) → okI l dC dI cB cI cJ cZ h0 a K V fz yX12_workSelect (wsOf yX12_workSelect cX12_workSelect 5 (some .int)) (n + 304) [.ref h0, .int x1] cs cs9 r9) (hT_workSource : ∀ (cs : RS) (x1 : Int32) (cs9 : RS) (r9 : Int32), T.2.2 cs x1 = some (cs9, r9) → okI l dC dI cB cI cJ cZ h0 a K V fz yX12_workSource (wsOf yX12_workSource cX12_workSource 9 (some .int)) (n + 304) [.ref h0, .int x1] cs cs9 r9) (cs : RS) (x1 : Int32) (cs9 : RS) (r9 : Int32) (hf : b_workSource F T cs x1 = some (cs9, r9)) : okI l dC dI cB cI cJ cZ h0 a K V fz yX12_workSource (wsOf yX12_workSource cX12_workSource 9 (some .int)) (n + 1 + 304) [.ref h0, .int x1] cs cs9 r9 := by
  intro sz
  refine Met.ofW (cc := cX12_workSource) (maxL := 9) (ret := (some .int)) (by decide) rfl ?_
  intro p e s m args below meth c s₁ B hml hv
  obtain ⟨rfl, hsz, hP, hK, hD0, hZ⟩ := hv
  have hx := B.exec
  have hb := B.bytes
  have hr := B.returns
  have hts := atoms_spec (ws := (wsOf yX12_workSource cX12_workSource 9 (some .int))) B.pre
  have hown : s.vm.findClass RX12 = some m.cls := findClass_of_methodNamed B.named
  have hlocks := B.notSynchronized
  subst hsz
  have hD := hD0.self (sz := s.heap.size)
  generalize hAe : va_A (mW cB cI cJ cZ h0 a cs) s.heap.size = A at hD hZ ⊢
  have hA : ∀ q : Nat, s.heap.size ≤ q → A q := fun q h => by rw [← hAe]; exact Or.inr h
  have hS : va_S A s.heap s.heap [] := va_S.rf
  have hl := lv_entry ([.ref h0, .int x1]) (n := 9) (Nat.le_of_ble_eq_true rfl)
  rw [lg_entry_eq]
  generalize (lg_sl ([.ref h0, .int x1]) ++ List.replicate (9 - (lg_sl ([.ref h0, .int x1])).length) Slot.unset).toArray = ls at hl ⊢
  have hl : lv_has ls 9 [(0, .ref h0), (1, .int x1)] := hl
  have L_47 : ∀ (lf_47 : Nat), ∀ (cs1 : RS) (u1 : Int32) (u2 : Int32) (u3 : Int32) (u4 : Int32) (u5 : Int32), m_workSource_L47 F T lf_47 cs1 u1 u2 u3 u4 u5 = some (cs9, r9) → ∀ (H : Heap) (locs : List Loc) (ls : Array Slot), va_P (dC, dI) vwCl (mW cB cI cJ cZ h0 a cs1) H → va_D A (mW cB cI cJ cZ h0 a cs1) → va_S A s.heap H locs → lv_has ls 9 [(0, .ref h0), (1, .int u1), (2, .int u2), (3, .int u3), (4, .int u4), (5, .int u5)] → W p l e (headSpec (wsOf yX12_workSource cX12_workSource 9 (some .int)) ({ frames := n + 1 + 304, cells := 0, slots := 0, locals := 60 * (n + 1 + 304) } : Room)).room s m ([.ref h0, .int x1] : List Value).toArray below meth c H locs 0 0 (MQ below (va_Qi (fun (x : Int32) (_ : Unit) => x = r9) (fun _ t_ => va_P (dC, dI) vwCl (mW cB cI cJ cZ h0 a cs9) t_.heap ∧ va_D A (mW cB cI cJ cZ h0 a cs9)) A) ([.ref h0, .int x1] : List Value).toArray s 0 0 A) (F0 m 47 ls []) := by
    intro lf_47
    induction lf_47 with
    | zero => intro cs1 u1 u2 u3 u4 u5 h; cases (show (none : Option (RS × Int32)) = _ from h)
    | succ lf_47 ih_47 =>
      have B_166 : ∀ (cs1 : RS) (u1 : Int32) (u2 : Int32) (u3 : Int32) (u4 : Int32) (u5 : Int32), m_workSource_b166 F T (m_workSource_L47 F T lf_47) cs1 u1 u2 u3 u4 u5 = some (cs9, r9) → ∀ (H : Heap) (locs : List Loc) (ls : Array Slot), va_P (dC, dI) vwCl (mW cB cI cJ cZ h0 a cs1) H → va_D A (mW cB cI cJ cZ h0 a cs1) → va_S A s.heap H locs → lv_has ls 9 [(0, .ref h0), (1, .int u1), (2, .int u2), (3, .int u3), (4, .int u4), (5, .int u5)] → W p l e (headSpec (wsOf yX12_workSource cX12_workSource 9 (some .int)) ({ frames := n + 1 + 304, cells := 0, slots := 0, locals := 60 * (n + 1 + 304) } : Room)).room s m ([.ref h0, .int x1] : List Value).toArray below meth c H locs 0 0 (MQ below (va_Qi (fun (x : Int32) (_ : Unit) => x = r9) (fun _ t_ => va_P (dC, dI) vwCl (mW cB cI cJ cZ h0 a cs9) t_.heap ∧ va_D A (mW cB cI cJ cZ h0 a cs9)) A) ([.ref h0, .int x1] : List Value).toArray s 0 0 A) (F0 m 166 ls []) := by
        intro cs1 u1 u2 u3 u4 u5 h H locs ls hP hD hS hl
        unfold m_workSource_b166 at h
        refine lv_iinc (v := u5 + 1) (lv' := [(5, .int (u5 + 1)), (0, .ref h0), (1, .int u1), (2, .int u2), (3, .int u3), (4, .int u4)]) hx hb dX12_workSource_166 hl (k := 5) rfl rfl (by decide) rfl (fun ls hl => ?_)
        refine lv_goto (tgt := 47) hx hb dX12_workSource_169 (by decide) ?_
        exact ih_47 cs1 u1 u2 u3 u4 (u5 + 1) h _ _ _ hP hD hS (lv_sub hl [1, 2, 3, 4, 5, 0] rfl)
      have L_84 : ∀ (lf_84 : Nat), ∀ (cs1 : RS) (u1 : Int32) (u2 : Int32) (u3 : Int32) (u4 : Int32) (u5 : Int32) (u6 : Int32) (u7 : Int32) (u8 : Int32), m_workSource_L84 F T (m_workSource_L47 F T lf_47) lf_84 cs1 u1 u2 u3 u4 u5 u6 u7 u8 = some (cs9, r9) → ∀ (H : Heap) (locs : List Loc) (ls : Array Slot), va_P (dC, dI) vwCl (mW cB cI cJ cZ h0 a cs1) H → va_D A (mW cB cI cJ cZ h0 a cs1) → va_S A s.heap H locs → lv_has ls 9 [(0, .ref h0), (1, .int u1), (2, .int u2), (3, .int u3), (4, .int u4), (5, .int u5), (6, .int u6), (7, .int u7), (8, .int u8)] → W p l e (headSpec (wsOf yX12_workSource cX12_workSource 9 (some .int)) ({ frames := n + 1 + 304, cells := 0, slots := 0, locals := 60 * (n + 1 + 304) } : Room)).room s m ([.ref h0, .int x1] : List Value).toArray below meth c H locs 0 0 (MQ below (va_Qi (fun (x : Int32) (_ : Unit) => x = r9) (fun _ t_ => va_P (dC, dI) vwCl (mW cB cI cJ cZ h0 a cs9) t_.heap ∧ va_D A (mW cB cI cJ cZ h0 a cs9)) A) ([.ref h0, .int x1] : List Value).toArray s 0 0 A) (F0 m 84 ls []) := by
        intro lf_84
        induction lf_84 with
        | zero => intro cs1 u1 u2 u3 u4 u5 u6 u7 u8 h; cases (show (none : Option (RS × Int32)) = _ from h)
        | succ lf_84 ih_84 =>
          intro cs1 u1 u2 u3 u4 u5 u6 u7 u8 h H locs ls hP hD hS hl
          rw [m_workSource_L84] at h
          refine lv_iload hx hb dX12_workSource_84 (lv_at hl 8 rfl) ?_
          refine lv_iload_n hx hb dX12_workSource_86 rfl (lv_at hl 3 rfl) ?_
          refine lv_icmp_ge (tgt := 140) hx hb dX12_workSource_87 (by decide) (fun c_1 => ?_) (fun c_1 => ?_)
          · skip
            replace h := (if_pos c_1).symm.trans h
            refine lv_aload_n hx hb dX12_workSource_140 rfl (lv_at hl 0 rfl) ?_
            refine fg_85 hx hb hts hown hK hP dX12_workSource_141 ?_
            refine lv_iload hx hb dX12_workSource_144 (lv_at hl 7 rfl) ?_
            refine lv_iload_n hx hb dX12_workSource_146 rfl (lv_at hl 3 rfl) ?_
            refine lv_iadd hx hb dX12_workSource_147 ?_
            refine lv_aload_n hx hb dX12_workSource_148 rfl (lv_at hl 0 rfl) ?_
            refine fg_7 hx hb hts hown hK hP dX12_workSource_149 ?_
            refine lv_iload hx hb dX12_workSource_152 (lv_at hl 6 rfl) ?_
            obtain ⟨v_2, hv_2, h⟩ := ob h
            refine ag_7 hx hb hK hP hv_2 dX12_workSource_154 ?_
            obtain ⟨cs_3, hv_3, h⟩ := ob h
            refine ap_85 hx hb hK hP hD hS hv_3 dX12_workSource_155 (fun H locs hP hD hS => ?_)
            refine lv_aload_n hx hb dX12_workSource_156 rfl (lv_at hl 0 rfl) ?_
            refine fg_86 hx hb hts hown hK hP dX12_workSource_157 ?_
            refine lv_iload hx hb dX12_workSource_160 (lv_at hl 7 rfl) ?_
            refine lv_iload_n hx hb dX12_workSource_162 rfl (lv_at hl 3 rfl) ?_
            refine lv_iadd hx hb dX12_workSource_163 ?_
            refine lv_iconst (v := 0) hx hb dX12_workSource_164 (by decide) ?_
            obtain ⟨cs_4, hv_4, h⟩ := ob h
            refine ap_86 hx hb hK hP hD hS hv_4 dX12_workSource_165 (fun H locs hP hD hS => ?_)
            exact B_166 cs_4 u1 u2 u3 u4 u5 h _ _ _ hP hD hS (lv_sub hl [0, 1, 2, 3, 4, 5] rfl)
          · skip
            replace h := (if_neg c_1).symm.trans h
            refine lv_aload_n hx hb dX12_workSource_90 rfl (lv_at hl 0 rfl) ?_
            refine fg_85 hx hb hts hown hK hP dX12_workSource_91 ?_
            refine lv_iload hx hb dX12_workSource_94 (lv_at hl 7 rfl) ?_
            refine lv_iload hx hb dX12_workSource_96 (lv_at hl 8 rfl) ?_
            refine lv_iadd hx hb dX12_workSource_98 ?_
            refine lv_aload_n hx hb dX12_workSource_99 rfl (lv_at hl 0 rfl) ?_
            refine fg_8 hx hb hts hown hK hP dX12_workSource_100 ?_
            refine lv_iconst (v := 4) hx hb dX12_workSource_103 (by decide) ?_
            refine lv_iload hx hb dX12_workSource_104 (lv_at hl 6 rfl) ?_
            refine lv_imul hx hb dX12_workSource_106 ?_
            refine lv_iload hx hb dX12_workSource_107 (lv_at hl 8 rfl) ?_
            refine lv_iadd hx hb dX12_workSource_109 ?_
            obtain ⟨v_5, hv_5, h⟩ := ob h
            refine ag_8 hx hb hK hP hv_5 dX12_workSource_110 ?_
            obtain ⟨cs_6, hv_6, h⟩ := ob h
            refine ap_85 hx hb hK hP hD hS hv_6 dX12_workSource_111 (fun H locs hP hD hS => ?_)
            refine lv_aload_n hx hb dX12_workSource_112 rfl (lv_at hl 0 rfl) ?_
            refine fg_86 hx hb hts hown hK hP dX12_workSource_113 ?_
            refine lv_iload hx hb dX12_workSource_116 (lv_at hl 7 rfl) ?_
            refine lv_iload hx hb dX12_workSource_118 (lv_at hl 8 rfl) ?_
            refine lv_iadd hx hb dX12_workSource_120 ?_
            refine lv_aload_n hx hb dX12_workSource_121 rfl (lv_at hl 0 rfl) ?_
            refine fg_9 hx hb hts hown hK hP dX12_workSource_122 ?_
            refine lv_iconst (v := 4) hx hb dX12_workSource_125 (by decide) ?_
            refine lv_iload hx hb dX12_workSource_126 (lv_at hl 6 rfl) ?_
            refine lv_imul hx hb dX12_workSource_128 ?_
            refine lv_iload hx hb dX12_workSource_129 (lv_at hl 8 rfl) ?_
            refine lv_iadd hx hb dX12_workSource_131 ?_
            obtain ⟨v_7, hv_7, h⟩ := ob h
            refine ag_9 hx hb hK hP hv_7 dX12_workSource_132 ?_
            obtain ⟨cs_8, hv_8, h⟩ := ob h
            refine ap_86 hx hb hK hP hD hS hv_8 dX12_workSource_133 (fun H locs hP hD hS => ?_)
            refine lv_iinc (v := u8 + 1) (lv' := [(8, .int (u8 + 1)), (0, .ref h0), (1, .int u1), (2, .int u2), (3, .int u3), (4, .int u4), (5, .int u5), (6, .int u6), (7, .int u7)]) hx hb dX12_workSource_134 hl (k := 8) rfl rfl (by decide) rfl (fun ls hl => ?_)
            refine lv_goto (tgt := 84) hx hb dX12_workSource_137 (by decide) ?_
            exact ih_84 cs_8 u1 u2 u3 u4 u5 u6 u7 (u8 + 1) h _ _ _ hP hD hS (lv_sub hl [1, 2, 3, 4, 5, 6, 7, 8, 0] rfl)
      intro cs1 u1 u2 u3 u4 u5 h H locs ls hP hD hS hl
      rw [m_workSource_L47] at h
      refine lv_iload hx hb dX12_workSource_47 (lv_at hl 5 rfl) ?_
      refine lv_bipush (v := 8) hx hb dX12_workSource_49 (by decide) ?_
      refine lv_icmp_ge (tgt := 172) hx hb dX12_workSource_51 (by decide) (fun c_9 => ?_) (fun c_9 => ?_)
      · skip
        replace h := (if_pos c_9).symm.trans h
        refine lv_iload hx hb dX12_workSource_172 (lv_at hl 4 rfl) ?_
        obtain ⟨e1, e2⟩ := Prod.mk.inj (Option.some.inj h)
        rw [e1] at hP hD
        exact W.iret (v := u4) hx hb hr (fun t_ ht hW => ⟨⟨u4, (), rfl, e2, by rw [ht]; exact hP, hD⟩, hS.F ht⟩) hS.2.2 dX12_workSource_174
      · skip
        replace h := (if_neg c_9).symm.trans h
        refine lv_bipush (v := 8) hx hb dX12_workSource_54 (by decide) ?_
        refine lv_iload_n hx hb dX12_workSource_56 rfl (lv_at hl 2 rfl) ?_
        refine lv_imul hx hb dX12_workSource_57 ?_
        refine lv_iload hx hb dX12_workSource_58 (lv_at hl 5 rfl) ?_
        refine lv_iadd hx hb dX12_workSource_60 ?_
        refine lv_istore (lv' := [(6, .int ((8 * u2) + u5)), (0, .ref h0), (1, .int u1), (2, .int u2), (3, .int u3), (4, .int u4), (5, .int u5)]) hx hb dX12_workSource_61 hl (by decide) rfl (fun ls hl => ?_)
        refine lv_aload_n hx hb dX12_workSource_63 rfl (lv_at hl 1 rfl) ?_
        refine lv_iload_n hx hb dX12_workSource_64 rfl (lv_at hl 2 rfl) ?_
        refine lv_iload hx hb dX12_workSource_65 (lv_at hl 0 rfl) ?_
        obtain ⟨v_10, hv_10, h⟩ := ob h
        refine calI (As := [.int u1, .int ((8 * u2) + u5)]) hx hb hml hts hown hK hP hD hS hA hZ (s_isIn l dC dI cB cI cJ cZ h0 a K V fz F cs1 u1 ((8 * u2) + u5) v_10 hv_10) (cw_isIn hts (fr := 1) (by show 1 + 1 ≤ n + 1 + 304; omega) (by show 8 + (3 + 11) + 60 * (1) ≤ 60 * (n + 1 + 304); omega)) rfl hl.1 (Nat.le_of_ble_eq_true rfl) ⟨Nat.zero_le _, Nat.zero_le _⟩ dX12_workSource_67 (fun H locs hP hD hS => ?_)
        refine lv_if_eq (tgt := 166) hx hb dX12_workSource_70 (by decide) (fun c_11 => ?_) (fun c_11 => ?_)
        · skip
          replace h := (if_pos c_11).symm.trans h
          exact B_166 cs1 u1 u2 u3 u4 u5 h _ _ _ hP hD hS (lv_sub hl [1, 2, 3, 4, 5, 6] rfl)
        · skip
          replace h := (if_neg c_11).symm.trans h
          refine lv_aload_n hx hb dX12_workSource_73 rfl (lv_at hl 1 rfl) ?_
          refine lv_iload hx hb dX12_workSource_74 (lv_at hl 5 rfl) ?_
          obtain ⟨z_12, hv_12, h⟩ := ob h
          refine calI (As := [.int u4]) hx hb hml hts hown hK hP hD hS hA hZ (s_newRow l dC dI cB cI cJ cZ h0 a K V fz F cs1 u4 z_12.1 z_12.2 hv_12) (cw_newRow hts (fr := 0) (by show 0 + 1 ≤ n + 1 + 304; omega) (by show 8 + (2 + 11) + 60 * (0) ≤ 60 * (n + 1 + 304); omega)) rfl hl.1 (Nat.le_of_ble_eq_true rfl) ⟨Nat.zero_le _, Nat.zero_le _⟩ dX12_workSource_76 (fun H locs hP hD hS => ?_)
          refine lv_istore (lv' := [(7, .int z_12.2), (6, .int ((8 * u2) + u5)), (0, .ref h0), (1, .int u1), (2, .int u2), (3, .int u3), (4, .int u4), (5, .int u5)]) hx hb dX12_workSource_79 hl (by decide) rfl (fun ls hl => ?_)
          refine lv_iconst (v := 0) hx hb dX12_workSource_81 (by decide) ?_
          refine lv_istore (lv' := [(8, .int 0), (7, .int z_12.2), (6, .int ((8 * u2) + u5)), (0, .ref h0), (1, .int u1), (2, .int u2), (3, .int u3), (4, .int u4), (5, .int u5)]) hx hb dX12_workSource_82 hl (by decide) rfl (fun ls hl => ?_)
          exact L_84 F z_12.1 u1 u2 u3 u4 u5 ((8 * u2) + u5) z_12.2 0 h _ _ _ hP hD hS (lv_sub hl [3, 4, 5, 6, 7, 8, 2, 1, 0] rfl)
  have h := hf
  unfold b_workSource at h
  refine lv_aload_n hx hb dX12_workSource_0 rfl (lv_at hl 0 rfl) ?_
  refine fg_49 hx hb hts hown hK hP dX12_workSource_1 ?_
  refine lv_iload_n hx hb dX12_workSource_4 rfl (lv_at hl 1 rfl) ?_
  obtain ⟨v_13, hv_13, h⟩ := ob h
  refine ag_49 hx hb hK hP hv_13 dX12_workSource_5 ?_
  refine lv_iconst (v := (-1)) hx hb dX12_workSource_6 (by decide) ?_
  refine lv_icmp_ne (tgt := 21) hx hb dX12_workSource_7 (by decide) (fun c_14 => ?_) (fun c_14 => ?_)
  · skip
    replace h := (if_neg c_14).symm.trans h
    refine lv_aload_n hx hb dX12_workSource_21 rfl (lv_at hl 0 rfl) ?_
    refine fg_49 hx hb hts hown hK hP dX12_workSource_22 ?_
    refine lv_iload_n hx hb dX12_workSource_25 rfl (lv_at hl 1 rfl) ?_
    obtain ⟨v_15, hv_15, h⟩ := ob h
    refine ag_49 hx hb hK hP hv_15 dX12_workSource_26 ?_
    refine lv_istore_n (lv' := [(2, .int v_15), (0, .ref h0), (1, .int x1)]) hx hb dX12_workSource_27 rfl hl (by decide) rfl (fun ls hl => ?_)
    refine lv_aload_n hx hb dX12_workSource_28 rfl (lv_at hl 1 rfl) ?_
    refine fg_5 hx hb hts hown hK hP dX12_workSource_29 ?_
    refine lv_iload_n hx hb dX12_workSource_32 rfl (lv_at hl 0 rfl) ?_
    obtain ⟨v_16, hv_16, h⟩ := ob h
    refine ag_5 hx hb hK hP hv_16 dX12_workSource_33 ?_
    refine lv_istore_n (lv' := [(3, .int v_16), (2, .int v_15), (0, .ref h0), (1, .int x1)]) hx hb dX12_workSource_34 rfl hl (by decide) rfl (fun ls hl => ?_)
    refine lv_aload_n hx hb dX12_workSource_35 rfl (lv_at hl 2 rfl) ?_
    refine lv_iload_n hx hb dX12_workSource_36 rfl (lv_at hl 0 rfl) ?_
    refine lv_iconst (v := 1) hx hb dX12_workSource_37 (by decide) ?_
    refine lv_iadd hx hb dX12_workSource_38 ?_
    obtain ⟨z_17, hv_17, h⟩ := ob h
    refine calI (As := [.int (v_16 + 1)]) hx hb hml hts hown hK hP hD hS hA hZ (s_relation l dC dI cB cI cJ cZ h0 a K V fz F cs (v_16 + 1) z_17.1 z_17.2 hv_17) (cw_relation hts (fr := 0) (by show 0 + 1 ≤ n + 1 + 304; omega) (by show 8 + (3 + 11) + 60 * (0) ≤ 60 * (n + 1 + 304); omega)) rfl hl.1 (Nat.le_of_ble_eq_true rfl) ⟨Nat.zero_le _, Nat.zero_le _⟩ dX12_workSource_39 (fun H locs hP hD hS => ?_)
    refine lv_istore (lv' := [(4, .int z_17.2), (3, .int v_16), (2, .int v_15), (0, .ref h0), (1, .int x1)]) hx hb dX12_workSource_42 hl (by decide) rfl (fun ls hl => ?_)
    refine lv_iconst (v := 0) hx hb dX12_workSource_44 (by decide) ?_
    refine lv_istore (lv' := [(5, .int 0), (4, .int z_17.2), (3, .int v_16), (2, .int v_15), (0, .ref h0), (1, .int x1)]) hx hb dX12_workSource_45 hl (by decide) rfl (fun ls hl => ?_)
    exact L_47 F z_17.1 x1 v_15 v_16 z_17.2 0 h _ _ _ hP hD hS (lv_sub hl [4, 5, 3, 2, 1, 0] rfl)
  · skip
    replace h := (if_pos c_14).symm.trans h
    refine lv_aload_n hx hb dX12_workSource_10 rfl (lv_at hl 0 rfl) ?_
    refine lv_aload_n hx hb dX12_workSource_11 rfl (lv_at hl 0 rfl) ?_
    refine fg_53 hx hb hts hown hK hP dX12_workSource_12 ?_
    refine lv_iload_n hx hb dX12_workSource_15 rfl (lv_at hl 1 rfl) ?_
    obtain ⟨v_18, hv_18, h⟩ := ob h
    refine ag_53 hx hb hK hP hv_18 dX12_workSource_16 ?_
    obtain ⟨z_19, hv_19, h⟩ := ob h
    refine calI (As := [.int v_18]) hx hb hml hts hown hK hP hD hS hA hZ (hT_workQuery cs v_18 z_19.1 z_19.2 hv_19) (cw_workQuery hts (fr := n + 304) (by show n + 304 + 1 ≤ n + 1 + 304; omega) (by show 8 + (5 + 11) + 60 * (n + 304) ≤ 60 * (n + 1 + 304); omega)) rfl hl.1 (Nat.le_of_ble_eq_true rfl) ⟨Nat.zero_le _, Nat.zero_le _⟩ dX12_workSource_17 (fun H locs hP hD hS => ?_)
    obtain ⟨e1, e2⟩ := Prod.mk.inj (Option.some.inj h)
    rw [e1] at hP hD
    exact W.iret (v := z_19.2) hx hb hr (fun t_ ht hW => ⟨⟨z_19.2, (), rfl, e2, by rw [ht]; exact hP, hD⟩, hS.F ht⟩) hS.2.2 dX12_workSource_20
theorem sg_workQuery (l : Launch) (dC : Nat → ClassId) (dI : Nat → Nat → Nat) (cB cI cJ cZ : ClassId) (h0 : Nat) (a : Nat → Nat) (K V : Nat → Nat) (fz : Value) (F : Nat) : ∀ n : Nat, (∀ (cs : RS) (x1 : Int32) (cs9 : RS) (r9 : Int32), (tab_workQuery F n).1 cs x1 = some (cs9, r9) → okI l dC dI cB cI cJ cZ h0 a K V fz yX12_workQuery (wsOf yX12_workQuery cX12_workQuery 5 (some .int)) (n + 304) [.ref h0, .int x1] cs cs9 r9) ∧ (∀ (cs : RS) (x1 : Int32) (cs9 : RS) (r9 : Int32), (tab_workQuery F n).2.1 cs x1 = some (cs9, r9) → okI l dC dI cB cI cJ cZ h0 a K V fz yX12_workSelect (wsOf yX12_workSelect cX12_workSelect 5 (some .int)) (n + 304) [.ref h0, .int x1] cs cs9 r9) ∧ (∀ (cs : RS) (x1 : Int32) (cs9 : RS) (r9 : Int32), (tab_workQuery F n).2.2 cs x1 = some (cs9, r9) → okI l dC dI cB cI cJ cZ h0 a K V fz yX12_workSource (wsOf yX12_workSource cX12_workSource 9 (some .int)) (n + 304) [.ref h0, .int x1] cs cs9 r9) := by
  intro n
  induction n with
  | zero => exact ⟨fun _ _ _ _ h => (by cases (show (none : Option (RS × Int32)) = _ from h)), fun _ _ _ _ h => (by cases (show (none : Option (RS × Int32)) = _ from h)), fun _ _ _ _ h => (by cases (show (none : Option (RS × Int32)) = _ from h))⟩
  | succ n ih =>
    obtain ⟨hh0, hh1, hh2⟩ := ih
    exact ⟨fun cs w0 w1 w2 hf => sb_workQuery l dC dI cB cI cJ cZ h0 a K V fz F n (tab_workQuery F n) hh0 hh1 hh2 cs w0 w1 w2 hf, fun cs w0 w1 w2 hf => sb_workSelect l dC dI cB cI cJ cZ h0 a K V fz F n (tab_workQuery F n) hh0 hh1 hh2 cs w0 w1 w2 hf, fun cs w0 w1 w2 hf => sb_workSource l dC dI cB cI cJ cZ h0 a K V fz F n (tab_workQuery F n) hh0 hh1 hh2 cs w0 w1 w2 hf⟩
def m_workQuery (F n : Nat) (cs : RS) (x1 : Int32) : Option (RS × Int32) := (tab_workQuery F n).1 cs x1
theorem s_workQuery (l : Launch) (dC : Nat → ClassId) (dI : Nat → Nat → Nat) (cB cI cJ cZ : ClassId) (h0 : Nat) (a : Nat → Nat) (K V : Nat → Nat) (fz : Value) (F n : Nat) (cs : RS) (x1 : Int32) (cs9 : RS) (r9 : Int32) (hf : m_workQuery F n cs x1 = some (cs9, r9)) : okI l dC dI cB cI cJ cZ h0 a K V fz yX12_workQuery (wsOf yX12_workQuery cX12_workQuery 5 (some .int)) (n + 304) [.ref h0, .int x1] cs cs9 r9 := (sg_workQuery l dC dI cB cI cJ cZ h0 a K V fz F n).1 cs x1 cs9 r9 hf
def m_workSelect (F n : Nat) (cs : RS) (x1 : Int32) : Option (RS × Int32) := (tab_workQuery F n).2.1 cs x1
theorem s_workSelect (l : Launch) (dC : Nat → ClassId) (dI : Nat → Nat → Nat) (cB cI cJ cZ : ClassId) (h0 : Nat) (a : Nat → Nat) (K V : Nat → Nat) (fz : Value) (F n : Nat) (cs : RS) (x1 : Int32) (cs9 : RS) (r9 : Int32) (hf : m_workSelect F n cs x1 = some (cs9, r9)) : okI l dC dI cB cI cJ cZ h0 a K V fz yX12_workSelect (wsOf yX12_workSelect cX12_workSelect 5 (some .int)) (n + 304) [.ref h0, .int x1] cs cs9 r9 := (sg_workQuery l dC dI cB cI cJ cZ h0 a K V fz F n).2.1 cs x1 cs9 r9 hf
def m_workSource (F n : Nat) (cs : RS) (x1 : Int32) : Option (RS × Int32) := (tab_workQuery F n).2.2 cs x1
theorem s_workSource (l : Launch) (dC : Nat → ClassId) (dI : Nat → Nat → Nat) (cB cI cJ cZ : ClassId) (h0 : Nat) (a : Nat → Nat) (K V : Nat → Nat) (fz : Value) (F n : Nat) (cs : RS) (x1 : Int32) (cs9 : RS) (r9 : Int32) (hf : m_workSource F n cs x1 = some (cs9, r9)) : okI l dC dI cB cI cJ cZ h0 a K V fz yX12_workSource (wsOf yX12_workSource cX12_workSource 9 (some .int)) (n + 304) [.ref h0, .int x1] cs cs9 r9 := (sg_workQuery l dC dI cB cI cJ cZ h0 a K V fz F n).2.2 cs x1 cs9 r9 hf
theorem dX12_sort_0 : decode cX12_sort 0 = .ok (.aload_n 0, 1) := by decide +kernel
theorem dX12_sort_1 : decode cX12_sort 1 = .ok (.getfield 203, 3) := by decide +kernel
theorem dX12_sort_4 : decode cX12_sort 4 = .ok (.iload_n 1, 1) := by decide +kernel
theorem dX12_sort_5 : decode cX12_sort 5 = .ok (.iaload, 1) := by decide +kernel
theorem dX12_sort_6 : decode cX12_sort 6 = .ok (.istore_n 2, 1) := by decide +kernel
theorem dX12_sort_7 : decode cX12_sort 7 = .ok (.iconst 0, 1) := by decide +kernel
theorem dX12_sort_8 : decode cX12_sort 8 = .ok (.istore_n 3, 1) := by decide +kernel
theorem dX12_sort_9 : decode cX12_sort 9 = .ok (.iload_n 3, 1) := by decide +kernel
theorem dX12_sort_10 : decode cX12_sort 10 = .ok (.iload_n 2, 1) := by decide +kernel
theorem dX12_sort_11 : decode cX12_sort 11 = .ok (.if_icmp .ge 80, 3) := by decide +kernel
theorem dX12_sort_14 : decode cX12_sort 14 = .ok (.iload_n 3, 1) := by decide +kernel
theorem dX12_sort_15 : decode cX12_sort 15 = .ok (.istore 4, 2) := by decide +kernel
theorem dX12_sort_17 : decode cX12_sort 17 = .ok (.iload 4, 2) := by decide +kernel
theorem dX12_sort_19 : decode cX12_sort 19 = .ok (.ifCond .le 58, 3) := by decide +kernel
theorem dX12_sort_22 : decode cX12_sort 22 = .ok (.aload_n 0, 1) := by decide +kernel
theorem dX12_sort_23 : decode cX12_sort 23 = .ok (.aload_n 0, 1) := by decide +kernel
theorem dX12_sort_24 : decode cX12_sort 24 = .ok (.iload_n 1, 1) := by decide +kernel
theorem dX12_sort_25 : decode cX12_sort 25 = .ok (.iload_n 3, 1) := by decide +kernel
theorem dX12_sort_26 : decode cX12_sort 26 = .ok (.invokevirtual 653, 3) := by decide +kernel
theorem dX12_sort_29 : decode cX12_sort 29 = .ok (.aload_n 0, 1) := by decide +kernel
theorem dX12_sort_30 : decode cX12_sort 30 = .ok (.iload_n 1, 1) := by decide +kernel
theorem dX12_sort_31 : decode cX12_sort 31 = .ok (.aload_n 0, 1) := by decide +kernel
theorem dX12_sort_32 : decode cX12_sort 32 = .ok (.getfield 242, 3) := by decide +kernel
theorem dX12_sort_35 : decode cX12_sort 35 = .ok (.iload 4, 2) := by decide +kernel
theorem dX12_sort_37 : decode cX12_sort 37 = .ok (.iconst 1, 1) := by decide +kernel
theorem dX12_sort_38 : decode cX12_sort 38 = .ok (.isub, 1) := by decide +kernel
theorem dX12_sort_39 : decode cX12_sort 39 = .ok (.iaload, 1) := by decide +kernel
theorem dX12_sort_40 : decode cX12_sort 40 = .ok (.invokevirtual 653, 3) := by decide +kernel
theorem dX12_sort_43 : decode cX12_sort 43 = .ok (.aload_n 0, 1) := by decide +kernel
theorem dX12_sort_44 : decode cX12_sort 44 = .ok (.getfield 206, 3) := by decide +kernel
theorem dX12_sort_47 : decode cX12_sort 47 = .ok (.iload_n 1, 1) := by decide +kernel
theorem dX12_sort_48 : decode cX12_sort 48 = .ok (.iaload, 1) := by decide +kernel
theorem dX12_sort_49 : decode cX12_sort 49 = .ok (.invokevirtual 693, 3) := by decide +kernel
theorem dX12_sort_52 : decode cX12_sort 52 = .ok (.ifCond .ge 25, 3) := by decide +kernel
theorem dX12_sort_55 : decode cX12_sort 55 = .ok (.aload_n 0, 1) := by decide +kernel
theorem dX12_sort_56 : decode cX12_sort 56 = .ok (.getfield 242, 3) := by decide +kernel
theorem dX12_sort_59 : decode cX12_sort 59 = .ok (.iload 4, 2) := by decide +kernel
theorem dX12_sort_61 : decode cX12_sort 61 = .ok (.aload_n 0, 1) := by decide +kernel
theorem dX12_sort_62 : decode cX12_sort 62 = .ok (.getfield 242, 3) := by decide +kernel
theorem dX12_sort_65 : decode cX12_sort 65 = .ok (.iload 4, 2) := by decide +kernel
theorem dX12_sort_67 : decode cX12_sort 67 = .ok (.iconst 1, 1) := by decide +kernel
theorem dX12_sort_68 : decode cX12_sort 68 = .ok (.isub, 1) := by decide +kernel
theorem dX12_sort_69 : decode cX12_sort 69 = .ok (.iaload, 1) := by decide +kernel
theorem dX12_sort_70 : decode cX12_sort 70 = .ok (.iastore, 1) := by decide +kernel
theorem dX12_sort_71 : decode cX12_sort 71 = .ok (.iinc 4 (-1), 3) := by decide +kernel
theorem dX12_sort_74 : decode cX12_sort 74 = .ok (.goto (-57), 3) := by decide +kernel
theorem dX12_sort_77 : decode cX12_sort 77 = .ok (.aload_n 0, 1) := by decide +kernel
theorem dX12_sort_78 : decode cX12_sort 78 = .ok (.getfield 242, 3) := by decide +kernel
theorem dX12_sort_81 : decode cX12_sort 81 = .ok (.iload 4, 2) := by decide +kernel
theorem dX12_sort_83 : decode cX12_sort 83 = .ok (.iload_n 3, 1) := by decide +kernel
theorem dX12_sort_84 : decode cX12_sort 84 = .ok (.iastore, 1) := by decide +kernel
theorem dX12_sort_85 : decode cX12_sort 85 = .ok (.iinc 3 1, 3) := by decide +kernel
theorem dX12_sort_88 : decode cX12_sort 88 = .ok (.goto (-79), 3) := by decide +kernel
theorem dX12_sort_91 : decode cX12_sort 91 = .ok (.return_, 1) := by decide +kernel
def m_sort_b77 (F : Nat) (rc9 : RS → Int32 → Int32 → Int32 → Option RS) (cs1 : RS) (u1 : Int32) (u2 : Int32) (u3 : Int32) (u4 : Int32) : Option RS := Option.bind (wrI cs1 114 700 u4 u3) fun cs_1 => rc9 cs_1 u1 u2 (u3 + 1)
def m_sort_L17 (F : Nat) (rc9 : RS → Int32 → Int32 → Int32 → Option RS) : Nat → RS → Int32 → Int32 → Int32 → Int32 → Option RS
  | 0, _, _, _, _, _ => none
  | lf_17 + 1, cs1, u1, u2, u3, u4 => if u4 ≤ 0 then (m_sort_b77 F rc9 cs1 u1 u2 u3 u4) else (Option.bind (m_rowAt F cs1 u1 u3) fun v_3 => Option.bind (rdI (cs1.2.2.1 114) 700 (u4 - 1)) fun v_4 => Option.bind (m_rowAt F cs1 u1 v_4) fun v_5 => Option.bind (rdI (cs1.2.2.1 90) 400 u1) fun v_6 => Option.bind (m_compareRows F cs1 v_3 v_5 v_6) fun v_7 => if 0 ≤ v_7 then (m_sort_b77 F rc9 cs1 u1 u2 u3 u4) else (Option.bind (rdI (cs1.2.2.1 114) 700 (u4 - 1)) fun v_9 => Option.bind (wrI cs1 114 700 u4 v_9) fun cs_10 => (m_sort_L17 F rc9 lf_17) cs_10 u1 u2 u3 (u4 + (-1))))
def m_sort_L9 (F : Nat) : Nat → RS → Int32 → Int32 → Int32 → Option RS
  | 0, _, _, _, _ => none
  | lf_9 + 1, cs1, u1, u2, u3 => if u2 ≤ u3 then (some cs1) else (m_sort_L17 F (m_sort_L9 F lf_9) F cs1 u1 u2 u3 u3)
def m_sort (F : Nat) (cs : RS) (x1 : Int32) : Option RS := Option.bind (rdI (cs.2.2.1 89) 400 x1) fun v_12 => m_sort_L9 F F cs x1 v_12 0
set_option maxHeartbeats 4000000 in
set_option maxRecDepth 100000 in
theorem s_sort (l : Launch) (dC : Nat → ClassId) (dI : Nat → Nat → Nat) (cB cI cJ cZ : ClassId) (h0 : Nat) (a : Nat → Nat) (K V : Nat → Nat) (fz : Value) (F : Nat) (cs : RS) (x1 : Int32) (cs9 : RS) (hf : m_sort F cs x1 = some cs9) : okV l dC dI cB cI cJ cZ h0 a K V fz yX12_sort (wsOf yX12_sort cX12_sort 5 none) (2) [.ref h0, .int x1] cs cs9 := by
  intro sz
  refine Met.ofW (cc := cX12_sort) (maxL := 5) (ret := none) (by decide) rfl ?_
  intro p e s m args below meth c s₁ B hml hv
  obtain ⟨rfl, hsz, hP, hK, hD0, hZ⟩ := hv
  have hx := B.exec
  have hb := B.bytes
  have hr := B.returns
  have hts := atoms_spec (ws := (wsOf yX12_sort cX12_sort 5 none)) B.pre
  have hown : s.vm.findClass RX12 = some m.cls := findClass_of_methodNamed B.named
  have hlocks := B.notSynchronized
  subst hsz
  have hD := hD0.self (sz := s.heap.size)
  generalize hAe : va_A (mW cB cI cJ cZ h0 a cs) s.heap.size = A at hD hZ ⊢
  have hA : ∀ q : Nat, s.heap.size ≤ q → A q := fun q h => by rw [← hAe]; exact Or.inr h
  have hS : va_S A s.heap s.heap [] := va_S.rf
  have hl := lv_entry ([.ref h0, .int x1]) (n := 5) (Nat.le_of_ble_eq_true rfl)
  rw [lg_entry_eq]
  generalize (lg_sl ([.ref h0, .int x1]) ++ List.replicate (5 - (lg_sl ([.ref h0, .int x1])).length) Slot.unset).toArray = ls at hl ⊢
  have hl : lv_has ls 5 [(0, .ref h0), (1, .int x1)] := hl
  have L_9 : ∀ (lf_9 : Nat), ∀ (cs1 : RS) (u1 : Int32) (u2 : Int32) (u3 : Int32), m_sort_L9 F lf_9 cs1 u1 u2 u3 = some cs9 → ∀ (H : Heap) (locs : List Loc) (ls : Array Slot), va_P (dC, dI) vwCl (mW cB cI cJ cZ h0 a cs1) H → va_D A (mW cB cI cJ cZ h0 a cs1) → va_S A s.heap H locs → lv_has ls 5 [(0, .ref h0), (1, .int u1), (2, .int u2), (3, .int u3)] → W p l e (headSpec (wsOf yX12_sort cX12_sort 5 none) ({ frames := 2, cells := 0, slots := 0, locals := 60 * (2) } : Room)).room s m ([.ref h0, .int x1] : List Value).toArray below meth c H locs 0 0 (MQ below (va_Qv (fun (_ : Unit) => True) (fun _ t_ => va_P (dC, dI) vwCl (mW cB cI cJ cZ h0 a cs9) t_.heap ∧ va_D A (mW cB cI cJ cZ h0 a cs9)) A) ([.ref h0, .int x1] : List Value).toArray s 0 0 A) (F0 m 9 ls []) := by
    intro lf_9
    induction lf_9 with
    | zero => intro cs1 u1 u2 u3 h; cases (show (none : Option RS) = _ from h)
    | succ lf_9 ih_9 =>
      have B_77 : ∀ (cs1 : RS) (u1 : Int32) (u2 : Int32) (u3 : Int32) (u4 : Int32), m_sort_b77 F (m_sort_L9 F lf_9) cs1 u1 u2 u3 u4 = some cs9 → ∀ (H : Heap) (locs : List Loc) (ls : Array Slot), va_P (dC, dI) vwCl (mW cB cI cJ cZ h0 a cs1) H → va_D A (mW cB cI cJ cZ h0 a cs1) → va_S A s.heap H locs → lv_has ls 5 [(0, .ref h0), (1, .int u1), (2, .int u2), (3, .int u3), (4, .int u4)] → W p l e (headSpec (wsOf yX12_sort cX12_sort 5 none) ({ frames := 2, cells := 0, slots := 0, locals := 60 * (2) } : Room)).room s m ([.ref h0, .int x1] : List Value).toArray below meth c H locs 0 0 (MQ below (va_Qv (fun (_ : Unit) => True) (fun _ t_ => va_P (dC, dI) vwCl (mW cB cI cJ cZ h0 a cs9) t_.heap ∧ va_D A (mW cB cI cJ cZ h0 a cs9)) A) ([.ref h0, .int x1] : List Value).toArray s 0 0 A) (F0 m 77 ls []) := by
        intro cs1 u1 u2 u3 u4 h H locs ls hP hD hS hl
        unfold m_sort_b77 at h
        refine lv_aload_n hx hb dX12_sort_77 rfl (lv_at hl 0 rfl) ?_
        refine fg_114 hx hb hts hown hK hP dX12_sort_78 ?_
        refine lv_iload hx hb dX12_sort_81 (lv_at hl 4 rfl) ?_
        refine lv_iload_n hx hb dX12_sort_83 rfl (lv_at hl 3 rfl) ?_
        obtain ⟨cs_1, hv_1, h⟩ := ob h
        refine ap_114 hx hb hK hP hD hS hv_1 dX12_sort_84 (fun H locs hP hD hS => ?_)
        refine lv_iinc (v := u3 + 1) (lv' := [(3, .int (u3 + 1)), (0, .ref h0), (1, .int u1), (2, .int u2), (4, .int u4)]) hx hb dX12_sort_85 hl (k := 3) rfl rfl (by decide) rfl (fun ls hl => ?_)
        refine lv_goto (tgt := 9) hx hb dX12_sort_88 (by decide) ?_
        exact ih_9 cs_1 u1 u2 (u3 + 1) h _ _ _ hP hD hS (lv_sub hl [1, 2, 3, 0] rfl)
      have L_17 : ∀ (lf_17 : Nat), ∀ (cs1 : RS) (u1 : Int32) (u2 : Int32) (u3 : Int32) (u4 : Int32), m_sort_L17 F (m_sort_L9 F lf_9) lf_17 cs1 u1 u2 u3 u4 = some cs9 → ∀ (H : Heap) (locs : List Loc) (ls : Array Slot), va_P (dC, dI) vwCl (mW cB cI cJ cZ h0 a cs1) H → va_D A (mW cB cI cJ cZ h0 a cs1) → va_S A s.heap H locs → lv_has ls 5 [(0, .ref h0), (1, .int u1), (2, .int u2), (3, .int u3), (4, .int u4)] → W p l e (headSpec (wsOf yX12_sort cX12_sort 5 none) ({ frames := 2, cells := 0, slots := 0, locals := 60 * (2) } : Room)).room s m ([.ref h0, .int x1] : List Value).toArray below meth c H locs 0 0 (MQ below (va_Qv (fun (_ : Unit) => True) (fun _ t_ => va_P (dC, dI) vwCl (mW cB cI cJ cZ h0 a cs9) t_.heap ∧ va_D A (mW cB cI cJ cZ h0 a cs9)) A) ([.ref h0, .int x1] : List Value).toArray s 0 0 A) (F0 m 17 ls []) := by
        intro lf_17
        induction lf_17 with
        | zero => intro cs1 u1 u2 u3 u4 h; cases (show (none : Option RS) = _ from h)
        | succ lf_17 ih_17 =>
          intro cs1 u1 u2 u3 u4 h H locs ls hP hD hS hl
          rw [m_sort_L17] at h
          refine lv_iload hx hb dX12_sort_17 (lv_at hl 4 rfl) ?_
          refine lv_if_le (tgt := 77) hx hb dX12_sort_19 (by decide) (fun c_2 => ?_) (fun c_2 => ?_)
          · skip
            replace h := (if_pos c_2).symm.trans h
            exact B_77 cs1 u1 u2 u3 u4 h _ _ _ hP hD hS (lv_sub hl [0, 1, 2, 3, 4] rfl)
          · skip
            replace h := (if_neg c_2).symm.trans h
            refine lv_aload_n hx hb dX12_sort_22 rfl (lv_at hl 0 rfl) ?_
            refine lv_aload_n hx hb dX12_sort_23 rfl (lv_at hl 0 rfl) ?_
            refine lv_iload_n hx hb dX12_sort_24 rfl (lv_at hl 1 rfl) ?_
            refine lv_iload_n hx hb dX12_sort_25 rfl (lv_at hl 3 rfl) ?_
            obtain ⟨v_3, hv_3, h⟩ := ob h
            refine calI (As := [.int u1, .int u3]) hx hb hml hts hown hK hP hD hS hA hZ (s_rowAt l dC dI cB cI cJ cZ h0 a K V fz F cs1 u1 u3 v_3 hv_3) (cw_rowAt hts (fr := 0) (Nat.le_of_ble_eq_true rfl) (Nat.le_of_ble_eq_true rfl)) rfl hl.1 (Nat.le_of_ble_eq_true rfl) ⟨Nat.zero_le _, Nat.zero_le _⟩ dX12_sort_26 (fun H locs hP hD hS => ?_)
            refine lv_aload_n hx hb dX12_sort_29 rfl (lv_at hl 0 rfl) ?_
            refine lv_iload_n hx hb dX12_sort_30 rfl (lv_at hl 1 rfl) ?_
            refine lv_aload_n hx hb dX12_sort_31 rfl (lv_at hl 0 rfl) ?_
            refine fg_114 hx hb hts hown hK hP dX12_sort_32 ?_
            refine lv_iload hx hb dX12_sort_35 (lv_at hl 4 rfl) ?_
            refine lv_iconst (v := 1) hx hb dX12_sort_37 (by decide) ?_
            refine lv_isub hx hb dX12_sort_38 ?_
            obtain ⟨v_4, hv_4, h⟩ := ob h
            refine ag_114 hx hb hK hP hv_4 dX12_sort_39 ?_
            obtain ⟨v_5, hv_5, h⟩ := ob h
            refine calI (As := [.int u1, .int v_4]) hx hb hml hts hown hK hP hD hS hA hZ (s_rowAt l dC dI cB cI cJ cZ h0 a K V fz F cs1 u1 v_4 v_5 hv_5) (cw_rowAt hts (fr := 0) (Nat.le_of_ble_eq_true rfl) (Nat.le_of_ble_eq_true rfl)) rfl hl.1 (Nat.le_of_ble_eq_true rfl) ⟨Nat.zero_le _, Nat.zero_le _⟩ dX12_sort_40 (fun H locs hP hD hS => ?_)
            refine lv_aload_n hx hb dX12_sort_43 rfl (lv_at hl 0 rfl) ?_
            refine fg_90 hx hb hts hown hK hP dX12_sort_44 ?_
            refine lv_iload_n hx hb dX12_sort_47 rfl (lv_at hl 1 rfl) ?_
            obtain ⟨v_6, hv_6, h⟩ := ob h
            refine ag_90 hx hb hK hP hv_6 dX12_sort_48 ?_
            obtain ⟨v_7, hv_7, h⟩ := ob h
            refine calI (As := [.int v_3, .int v_5, .int v_6]) hx hb hml hts hown hK hP hD hS hA hZ (s_compareRows l dC dI cB cI cJ cZ h0 a K V fz F cs1 v_3 v_5 v_6 v_7 hv_7) (cw_compareRows hts (fr := 1) (Nat.le_of_ble_eq_true rfl) (Nat.le_of_ble_eq_true rfl)) rfl hl.1 (Nat.le_of_ble_eq_true rfl) ⟨Nat.zero_le _, Nat.zero_le _⟩ dX12_sort_49 (fun H locs hP hD hS => ?_)
            refine lv_if_ge (tgt := 77) hx hb dX12_sort_52 (by decide) (fun c_8 => ?_) (fun c_8 => ?_)
            · skip
              replace h := (if_pos c_8).symm.trans h
              exact B_77 cs1 u1 u2 u3 u4 h _ _ _ hP hD hS (lv_sub hl [0, 1, 2, 3, 4] rfl)
            · skip
              replace h := (if_neg c_8).symm.trans h
              refine lv_aload_n hx hb dX12_sort_55 rfl (lv_at hl 0 rfl) ?_
              refine fg_114 hx hb hts hown hK hP dX12_sort_56 ?_
              refine lv_iload hx hb dX12_sort_59 (lv_at hl 4 rfl) ?_
              refine lv_aload_n hx hb dX12_sort_61 rfl (lv_at hl 0 rfl) ?_
              refine fg_114 hx hb hts hown hK hP dX12_sort_62 ?_
              refine lv_iload hx hb dX12_sort_65 (lv_at hl 4 rfl) ?_
              refine lv_iconst (v := 1) hx hb dX12_sort_67 (by decide) ?_
              refine lv_isub hx hb dX12_sort_68 ?_
              obtain ⟨v_9, hv_9, h⟩ := ob h
              refine ag_114 hx hb hK hP hv_9 dX12_sort_69 ?_
              obtain ⟨cs_10, hv_10, h⟩ := ob h
              refine ap_114 hx hb hK hP hD hS hv_10 dX12_sort_70 (fun H locs hP hD hS => ?_)
              refine lv_iinc (v := u4 + (-1)) (lv' := [(4, .int (u4 + (-1))), (0, .ref h0), (1, .int u1), (2, .int u2), (3, .int u3)]) hx hb dX12_sort_71 hl (k := 4) rfl rfl (by decide) rfl (fun ls hl => ?_)
              refine lv_goto (tgt := 17) hx hb dX12_sort_74 (by decide) ?_
              exact ih_17 cs_10 u1 u2 u3 (u4 + (-1)) h _ _ _ hP hD hS (lv_sub hl [1, 2, 3, 4, 0] rfl)
      intro cs1 u1 u2 u3 h H locs ls hP hD hS hl
      rw [m_sort_L9] at h
      refine lv_iload_n hx hb dX12_sort_9 rfl (lv_at hl 3 rfl) ?_
      refine lv_iload_n hx hb dX12_sort_10 rfl (lv_at hl 2 rfl) ?_
      refine lv_icmp_ge (tgt := 91) hx hb dX12_sort_11 (by decide) (fun c_11 => ?_) (fun c_11 => ?_)
      · skip
        replace h := (if_pos c_11).symm.trans h
        have e1 := Option.some.inj h
        rw [e1] at hP hD
        exact W.vret hx hb hr (fun t_ ht hW => ⟨⟨(), rfl, trivial, by rw [ht]; exact hP, hD⟩, hS.F ht⟩) hS.2.2 dX12_sort_91
      · skip
        replace h := (if_neg c_11).symm.trans h
        refine lv_iload_n hx hb dX12_sort_14 rfl (lv_at hl 3 rfl) ?_
        refine lv_istore (lv' := [(4, .int u3), (0, .ref h0), (1, .int u1), (2, .int u2), (3, .int u3)]) hx hb dX12_sort_15 hl (by decide) rfl (fun ls hl => ?_)
        exact L_17 F cs1 u1 u2 u3 u3 h _ _ _ hP hD hS (lv_sub hl [1, 2, 3, 4, 0] rfl)
  have h := hf
  unfold m_sort at h
  refine lv_aload_n hx hb dX12_sort_0 rfl (lv_at hl 0 rfl) ?_
  refine fg_89 hx hb hts hown hK hP dX12_sort_1 ?_
  refine lv_iload_n hx hb dX12_sort_4 rfl (lv_at hl 1 rfl) ?_
  obtain ⟨v_12, hv_12, h⟩ := ob h
  refine ag_89 hx hb hK hP hv_12 dX12_sort_5 ?_
  refine lv_istore_n (lv' := [(2, .int v_12), (0, .ref h0), (1, .int x1)]) hx hb dX12_sort_6 rfl hl (by decide) rfl (fun ls hl => ?_)
  refine lv_iconst (v := 0) hx hb dX12_sort_7 (by decide) ?_
  refine lv_istore_n (lv' := [(3, .int 0), (2, .int v_12), (0, .ref h0), (1, .int x1)]) hx hb dX12_sort_8 rfl hl (by decide) rfl (fun ls hl => ?_)
  exact L_9 F cs x1 v_12 0 h _ _ _ hP hD hS (lv_sub hl [2, 3, 1, 0] rfl)
theorem cw_sort {R : Room} {s : State} {args : Array Value} {y0 : MethodName} {c0 : ByteArray} {n0 : Nat} {r0 : Option FieldType} (hts : ∀ w ∈ wsOf y0 c0 n0 r0, w.before args s = true) {fr : Nat} (h1 : fr + 1 ≤ R.frames) (h2 : 8 + (5 + 11) + 60 * fr ≤ R.locals) : CallW R s args RX12 RX12 722 yX12_sort cX12_sort 5 none (wsOf yX12_sort cX12_sort 5 none) ({ frames := fr, cells := 0, slots := 0, locals := 60 * fr } : Room) 0 0 1 := cwV 1 hts (gd_all (in_V kw_2196 kw_2198 kw_128 kw_191 kc_X12_sort)) rfl rfl rfl (by decide +kernel) ⟨h1, h2⟩
theorem dX12_compareAcross_0 : decode cX12_compareAcross 0 = .ok (.iconst 0, 1) := by decide +kernel
theorem dX12_compareAcross_1 : decode cX12_compareAcross 1 = .ok (.istore_n 3, 1) := by decide +kernel
theorem dX12_compareAcross_2 : decode cX12_compareAcross 2 = .ok (.iload_n 3, 1) := by decide +kernel
theorem dX12_compareAcross_3 : decode cX12_compareAcross 3 = .ok (.aload_n 0, 1) := by decide +kernel
theorem dX12_compareAcross_4 : decode cX12_compareAcross 4 = .ok (.getfield 719, 3) := by decide +kernel
theorem dX12_compareAcross_7 : decode cX12_compareAcross 7 = .ok (.if_icmp .ge 70, 3) := by decide +kernel
theorem dX12_compareAcross_10 : decode cX12_compareAcross 10 = .ok (.aload_n 0, 1) := by decide +kernel
theorem dX12_compareAcross_11 : decode cX12_compareAcross 11 = .ok (.getfield 719, 3) := by decide +kernel
theorem dX12_compareAcross_14 : decode cX12_compareAcross 14 = .ok (.iload_n 1, 1) := by decide +kernel
theorem dX12_compareAcross_15 : decode cX12_compareAcross 15 = .ok (.imul, 1) := by decide +kernel
theorem dX12_compareAcross_16 : decode cX12_compareAcross 16 = .ok (.iload_n 3, 1) := by decide +kernel
theorem dX12_compareAcross_17 : decode cX12_compareAcross 17 = .ok (.iadd, 1) := by decide +kernel
theorem dX12_compareAcross_18 : decode cX12_compareAcross 18 = .ok (.istore 4, 2) := by decide +kernel
theorem dX12_compareAcross_20 : decode cX12_compareAcross 20 = .ok (.aload_n 0, 1) := by decide +kernel
theorem dX12_compareAcross_21 : decode cX12_compareAcross 21 = .ok (.getfield 719, 3) := by decide +kernel
theorem dX12_compareAcross_24 : decode cX12_compareAcross 24 = .ok (.iload_n 2, 1) := by decide +kernel
theorem dX12_compareAcross_25 : decode cX12_compareAcross 25 = .ok (.imul, 1) := by decide +kernel
theorem dX12_compareAcross_26 : decode cX12_compareAcross 26 = .ok (.iload_n 3, 1) := by decide +kernel
theorem dX12_compareAcross_27 : decode cX12_compareAcross 27 = .ok (.iadd, 1) := by decide +kernel
theorem dX12_compareAcross_28 : decode cX12_compareAcross 28 = .ok (.istore 5, 2) := by decide +kernel
theorem dX12_compareAcross_30 : decode cX12_compareAcross 30 = .ok (.aload_n 0, 1) := by decide +kernel
theorem dX12_compareAcross_31 : decode cX12_compareAcross 31 = .ok (.getfield 227, 3) := by decide +kernel
theorem dX12_compareAcross_34 : decode cX12_compareAcross 34 = .ok (.iload 4, 2) := by decide +kernel
theorem dX12_compareAcross_36 : decode cX12_compareAcross 36 = .ok (.laload, 1) := by decide +kernel
theorem dX12_compareAcross_37 : decode cX12_compareAcross 37 = .ok (.aload_n 0, 1) := by decide +kernel
theorem dX12_compareAcross_38 : decode cX12_compareAcross 38 = .ok (.getfield 230, 3) := by decide +kernel
theorem dX12_compareAcross_41 : decode cX12_compareAcross 41 = .ok (.iload 4, 2) := by decide +kernel
theorem dX12_compareAcross_43 : decode cX12_compareAcross 43 = .ok (.baload, 1) := by decide +kernel
theorem dX12_compareAcross_44 : decode cX12_compareAcross 44 = .ok (.aload_n 0, 1) := by decide +kernel
theorem dX12_compareAcross_45 : decode cX12_compareAcross 45 = .ok (.getfield 221, 3) := by decide +kernel
theorem dX12_compareAcross_48 : decode cX12_compareAcross 48 = .ok (.iload 5, 2) := by decide +kernel
theorem dX12_compareAcross_50 : decode cX12_compareAcross 50 = .ok (.laload, 1) := by decide +kernel
theorem dX12_compareAcross_51 : decode cX12_compareAcross 51 = .ok (.aload_n 0, 1) := by decide +kernel
theorem dX12_compareAcross_52 : decode cX12_compareAcross 52 = .ok (.getfield 224, 3) := by decide +kernel
theorem dX12_compareAcross_55 : decode cX12_compareAcross 55 = .ok (.iload 5, 2) := by decide +kernel
theorem dX12_compareAcross_57 : decode cX12_compareAcross 57 = .ok (.baload, 1) := by decide +kernel
theorem dX12_compareAcross_58 : decode cX12_compareAcross 58 = .ok (.invokestatic 596, 3) := by decide +kernel
theorem dX12_compareAcross_61 : decode cX12_compareAcross 61 = .ok (.istore 6, 2) := by decide +kernel
theorem dX12_compareAcross_63 : decode cX12_compareAcross 63 = .ok (.iload 6, 2) := by decide +kernel
theorem dX12_compareAcross_65 : decode cX12_compareAcross 65 = .ok (.ifCond .eq 6, 3) := by decide +kernel
theorem dX12_compareAcross_68 : decode cX12_compareAcross 68 = .ok (.iload 6, 2) := by decide +kernel
theorem dX12_compareAcross_70 : decode cX12_compareAcross 70 = .ok (.ireturn, 1) := by decide +kernel
theorem dX12_compareAcross_71 : decode cX12_compareAcross 71 = .ok (.iinc 3 1, 3) := by decide +kernel
theorem dX12_compareAcross_74 : decode cX12_compareAcross 74 = .ok (.goto (-72), 3) := by decide +kernel
theorem dX12_compareAcross_77 : decode cX12_compareAcross 77 = .ok (.iconst 0, 1) := by decide +kernel
theorem dX12_compareAcross_78 : decode cX12_compareAcross 78 = .ok (.ireturn, 1) := by decide +kernel
def m_compareAcross_L2 (F : Nat) (cs : RS) : Nat → Int32 → Int32 → Int32 → Option Int32
  | 0, _, _, _ => none
  | lf_2 + 1, u1, u2, u3 => if (cs.1 101) ≤ u3 then (some 0) else (Option.bind (rdL (cs.2.2.2 108) 4800 (((cs.1 101) * u1) + u3)) fun v_2 => Option.bind (rdI (cs.2.2.1 109) 4800 (((cs.1 101) * u1) + u3)) fun v_3 => Option.bind (rdL (cs.2.2.2 105) 4800 (((cs.1 101) * u2) + u3)) fun v_4 => Option.bind (rdI (cs.2.2.1 106) 4800 (((cs.1 101) * u2) + u3)) fun v_5 => Option.bind (m_compare F cs v_2 v_3 v_4 v_5) fun v_6 => if v_6 = 0 then ((m_compareAcross_L2 F cs lf_2) u1 u2 (u3 + 1)) else (some v_6))
def m_compareAcross (F : Nat) (cs : RS) (x1 : Int32) (x2 : Int32) : Option Int32 := m_compareAcross_L2 F cs F x1 x2 0
set_option maxHeartbeats 4000000 in
set_option maxRecDepth 100000 in
theorem s_compareAcross (l : Launch) (dC : Nat → ClassId) (dI : Nat → Nat → Nat) (cB cI cJ cZ : ClassId) (h0 : Nat) (a : Nat → Nat) (K V : Nat → Nat) (fz : Value) (F : Nat) (cs : RS) (x1 : Int32) (x2 : Int32) (r9 : Int32) (hf : m_compareAcross F cs x1 x2 = some r9) : okI l dC dI cB cI cJ cZ h0 a K V fz yX12_compareAcross (wsOf yX12_compareAcross cX12_compareAcross 7 (some .int)) (1) [.ref h0, .int x1, .int x2] cs cs r9 := by
  intro sz
  refine Met.ofW (cc := cX12_compareAcross) (maxL := 7) (ret := (some .int)) (by decide) rfl ?_
  intro p e s m args below meth c s₁ B hml hv
  obtain ⟨rfl, hsz, hP, hK, hD0, hZ⟩ := hv
  have hx := B.exec
  have hb := B.bytes
  have hr := B.returns
  have hts := atoms_spec (ws := (wsOf yX12_compareAcross cX12_compareAcross 7 (some .int))) B.pre
  have hown : s.vm.findClass RX12 = some m.cls := findClass_of_methodNamed B.named
  have hlocks := B.notSynchronized
  subst hsz
  have hD := hD0.self (sz := s.heap.size)
  generalize hAe : va_A (mW cB cI cJ cZ h0 a cs) s.heap.size = A at hD hZ ⊢
  have hA : ∀ q : Nat, s.heap.size ≤ q → A q := fun q h => by rw [← hAe]; exact Or.inr h
  have hS : va_S A s.heap s.heap [] := va_S.rf
  have hl := lv_entry ([.ref h0, .int x1, .int x2]) (n := 7) (Nat.le_of_ble_eq_true rfl)
  rw [lg_entry_eq]
  generalize (lg_sl ([.ref h0, .int x1, .int x2]) ++ List.replicate (7 - (lg_sl ([.ref h0, .int x1, .int x2])).length) Slot.unset).toArray = ls at hl ⊢
  have hl : lv_has ls 7 [(0, .ref h0), (1, .int x1), (2, .int x2)] := hl
  have L_2 : ∀ (lf_2 : Nat), ∀ (u1 : Int32) (u2 : Int32) (u3 : Int32), m_compareAcross_L2 F cs lf_2 u1 u2 u3 = some r9 → ∀ (H : Heap) (locs : List Loc) (ls : Array Slot), va_P (dC, dI) vwCl (mW cB cI cJ cZ h0 a cs) H → va_D A (mW cB cI cJ cZ h0 a cs) → va_S A s.heap H locs → lv_has ls 7 [(0, .ref h0), (1, .int u1), (2, .int u2), (3, .int u3)] → W p l e (headSpec (wsOf yX12_compareAcross cX12_compareAcross 7 (some .int)) ({ frames := 1, cells := 0, slots := 0, locals := 60 * (1) } : Room)).room s m ([.ref h0, .int x1, .int x2] : List Value).toArray below meth c H locs 0 0 (MQ below (va_Qi (fun (x : Int32) (_ : Unit) => x = r9) (fun _ t_ => va_P (dC, dI) vwCl (mW cB cI cJ cZ h0 a cs) t_.heap ∧ va_D A (mW cB cI cJ cZ h0 a cs)) A) ([.ref h0, .int x1, .int x2] : List Value).toArray s 0 0 A) (F0 m 2 ls []) := by
    intro lf_2
    induction lf_2 with
    | zero => intro u1 u2 u3 h; cases (show (none : Option Int32) = _ from h)
    | succ lf_2 ih_2 =>
      intro u1 u2 u3 h H locs ls hP hD hS hl
      rw [m_compareAcross_L2] at h
      refine lv_iload_n hx hb dX12_compareAcross_2 rfl (lv_at hl 3 rfl) ?_
      refine lv_aload_n hx hb dX12_compareAcross_3 rfl (lv_at hl 0 rfl) ?_
      refine fg_101 hx hb hts hown hK hP dX12_compareAcross_4 ?_
      refine lv_icmp_ge (tgt := 77) hx hb dX12_compareAcross_7 (by decide) (fun c_1 => ?_) (fun c_1 => ?_)
      · skip
        replace h := (if_pos c_1).symm.trans h
        refine lv_iconst (v := 0) hx hb dX12_compareAcross_77 (by decide) ?_
        have e2 := Option.some.inj h
        exact W.iret (v := 0) hx hb hr (fun t_ ht hW => ⟨⟨0, (), rfl, e2, by rw [ht]; exact hP, hD⟩, hS.F ht⟩) hS.2.2 dX12_compareAcross_78
      · skip
        replace h := (if_neg c_1).symm.trans h
        refine lv_aload_n hx hb dX12_compareAcross_10 rfl (lv_at hl 0 rfl) ?_
        refine fg_101 hx hb hts hown hK hP dX12_compareAcross_11 ?_
        refine lv_iload_n hx hb dX12_compareAcross_14 rfl (lv_at hl 1 rfl) ?_
        refine lv_imul hx hb dX12_compareAcross_15 ?_
        refine lv_iload_n hx hb dX12_compareAcross_16 rfl (lv_at hl 3 rfl) ?_
        refine lv_iadd hx hb dX12_compareAcross_17 ?_
        refine lv_istore (lv' := [(4, .int (((cs.1 101) * u1) + u3)), (0, .ref h0), (1, .int u1), (2, .int u2), (3, .int u3)]) hx hb dX12_compareAcross_18 hl (by decide) rfl (fun ls hl => ?_)
        refine lv_aload_n hx hb dX12_compareAcross_20 rfl (lv_at hl 1 rfl) ?_
        refine fg_101 hx hb hts hown hK hP dX12_compareAcross_21 ?_
        refine lv_iload_n hx hb dX12_compareAcross_24 rfl (lv_at hl 3 rfl) ?_
        refine lv_imul hx hb dX12_compareAcross_25 ?_
        refine lv_iload_n hx hb dX12_compareAcross_26 rfl (lv_at hl 4 rfl) ?_
        refine lv_iadd hx hb dX12_compareAcross_27 ?_
        refine lv_istore (lv' := [(5, .int (((cs.1 101) * u2) + u3)), (4, .int (((cs.1 101) * u1) + u3)), (0, .ref h0), (1, .int u1), (2, .int u2), (3, .int u3)]) hx hb dX12_compareAcross_28 hl (by decide) rfl (fun ls hl => ?_)
        refine lv_aload_n hx hb dX12_compareAcross_30 rfl (lv_at hl 2 rfl) ?_
        refine fg_108 hx hb hts hown hK hP dX12_compareAcross_31 ?_
        refine lv_iload hx hb dX12_compareAcross_34 (lv_at hl 1 rfl) ?_
        obtain ⟨v_2, hv_2, h⟩ := ob h
        refine ag_108 hx hb hK hP hv_2 dX12_compareAcross_36 ?_
        refine lv_aload_n hx hb dX12_compareAcross_37 rfl (lv_at hl 2 rfl) ?_
        refine fg_109 hx hb hts hown hK hP dX12_compareAcross_38 ?_
        refine lv_iload hx hb dX12_compareAcross_41 (lv_at hl 1 rfl) ?_
        obtain ⟨v_3, hv_3, h⟩ := ob h
        refine ag_109 hx hb hK hP hv_3 dX12_compareAcross_43 ?_
        refine lv_aload_n hx hb dX12_compareAcross_44 rfl (lv_at hl 2 rfl) ?_
        refine fg_105 hx hb hts hown hK hP dX12_compareAcross_45 ?_
        refine lv_iload hx hb dX12_compareAcross_48 (lv_at hl 0 rfl) ?_
        obtain ⟨v_4, hv_4, h⟩ := ob h
        refine ag_105 hx hb hK hP hv_4 dX12_compareAcross_50 ?_
        refine lv_aload_n hx hb dX12_compareAcross_51 rfl (lv_at hl 2 rfl) ?_
        refine fg_106 hx hb hts hown hK hP dX12_compareAcross_52 ?_
        refine lv_iload hx hb dX12_compareAcross_55 (lv_at hl 0 rfl) ?_
        obtain ⟨v_5, hv_5, h⟩ := ob h
        refine ag_106 hx hb hK hP hv_5 dX12_compareAcross_57 ?_
        obtain ⟨v_6, hv_6, h⟩ := ob h
        refine calSI (As := [.long v_2, .int v_3, .long v_4, .int v_5]) hx hb hml hts hown hK hP hD hS hA hZ (s_compare l dC dI cB cI cJ cZ h0 a K V fz F cs v_2 v_3 v_4 v_5 v_6 hv_6) (cw_compare hts (fr := 0) (Nat.le_of_ble_eq_true rfl) (Nat.le_of_ble_eq_true rfl)) rfl hl.1 (Nat.le_of_ble_eq_true rfl) ⟨Nat.zero_le _, Nat.zero_le _⟩ dX12_compareAcross_58 (fun H locs hP hD hS => ?_)
        refine lv_istore (lv' := [(6, .int v_6), (5, .int (((cs.1 101) * u2) + u3)), (4, .int (((cs.1 101) * u1) + u3)), (0, .ref h0), (1, .int u1), (2, .int u2), (3, .int u3)]) hx hb dX12_compareAcross_61 hl (by decide) rfl (fun ls hl => ?_)
        refine lv_iload hx hb dX12_compareAcross_63 (lv_at hl 0 rfl) ?_
        refine lv_if_eq (tgt := 71) hx hb dX12_compareAcross_65 (by decide) (fun c_7 => ?_) (fun c_7 => ?_)
        · skip
          replace h := (if_pos c_7).symm.trans h
          refine lv_iinc (v := u3 + 1) (lv' := [(3, .int (u3 + 1)), (6, .int v_6), (5, .int (((cs.1 101) * u2) + u3)), (4, .int (((cs.1 101) * u1) + u3)), (0, .ref h0), (1, .int u1), (2, .int u2)]) hx hb dX12_compareAcross_71 hl (k := 6) rfl rfl (by decide) rfl (fun ls hl => ?_)
          refine lv_goto (tgt := 2) hx hb dX12_compareAcross_74 (by decide) ?_
          exact ih_2 u1 u2 (u3 + 1) h _ _ _ hP hD hS (lv_sub hl [4, 5, 6, 0] rfl)
        · skip
          replace h := (if_neg c_7).symm.trans h
          refine lv_iload hx hb dX12_compareAcross_68 (lv_at hl 0 rfl) ?_
          have e2 := Option.some.inj h
          exact W.iret (v := v_6) hx hb hr (fun t_ ht hW => ⟨⟨v_6, (), rfl, e2, by rw [ht]; exact hP, hD⟩, hS.F ht⟩) hS.2.2 dX12_compareAcross_70
  have h := hf
  unfold m_compareAcross at h
  refine lv_iconst (v := 0) hx hb dX12_compareAcross_0 (by decide) ?_
  refine lv_istore_n (lv' := [(3, .int 0), (0, .ref h0), (1, .int x1), (2, .int x2)]) hx hb dX12_compareAcross_1 rfl hl (by decide) rfl (fun ls hl => ?_)
  exact L_2 F x1 x2 0 h _ _ _ hP hD hS (lv_sub hl [1, 2, 3, 0] rfl)
theorem cw_compareAcross {R : Room} {s : State} {args : Array Value} {y0 : MethodName} {c0 : ByteArray} {n0 : Nat} {r0 : Option FieldType} (hts : ∀ w ∈ wsOf y0 c0 n0 r0, w.before args s = true) {fr : Nat} (h1 : fr + 1 ≤ R.frames) (h2 : 8 + (7 + 11) + 60 * fr ≤ R.locals) : CallW R s args RX12 RX12 730 yX12_compareAcross cX12_compareAcross 7 (some .int) (wsOf yX12_compareAcross cX12_compareAcross 7 (some .int)) ({ frames := fr, cells := 0, slots := 0, locals := 60 * fr } : Room) 0 0 2 := cwV 2 hts (gd_all (in_V kw_2204 kw_2206 kw_130 kw_191 kc_X12_compareAcross)) rfl rfl rfl (by decide +kernel) ⟨h1, h2⟩
theorem dX12_isLikeNext_0 : decode cX12_isLikeNext 0 = .ok (.iload_n 1, 1) := by decide +kernel
theorem dX12_isLikeNext_1 : decode cX12_isLikeNext 1 = .ok (.ifCond .eq 10, 3) := by decide +kernel
theorem dX12_isLikeNext_4 : decode cX12_isLikeNext 4 = .ok (.aload_n 0, 1) := by decide +kernel
theorem dX12_isLikeNext_5 : decode cX12_isLikeNext 5 = .ok (.getfield 716, 3) := by decide +kernel
theorem dX12_isLikeNext_8 : decode cX12_isLikeNext 8 = .ok (.goto 7, 3) := by decide +kernel
theorem dX12_isLikeNext_11 : decode cX12_isLikeNext 11 = .ok (.aload_n 0, 1) := by decide +kernel
theorem dX12_isLikeNext_12 : decode cX12_isLikeNext 12 = .ok (.getfield 713, 3) := by decide +kernel
theorem dX12_isLikeNext_15 : decode cX12_isLikeNext 15 = .ok (.istore_n 3, 1) := by decide +kernel
theorem dX12_isLikeNext_16 : decode cX12_isLikeNext 16 = .ok (.iload_n 2, 1) := by decide +kernel
theorem dX12_isLikeNext_17 : decode cX12_isLikeNext 17 = .ok (.iconst 1, 1) := by decide +kernel
theorem dX12_isLikeNext_18 : decode cX12_isLikeNext 18 = .ok (.iadd, 1) := by decide +kernel
theorem dX12_isLikeNext_19 : decode cX12_isLikeNext 19 = .ok (.iload_n 3, 1) := by decide +kernel
theorem dX12_isLikeNext_20 : decode cX12_isLikeNext 20 = .ok (.if_icmp .lt 5, 3) := by decide +kernel
theorem dX12_isLikeNext_23 : decode cX12_isLikeNext 23 = .ok (.iconst 0, 1) := by decide +kernel
theorem dX12_isLikeNext_24 : decode cX12_isLikeNext 24 = .ok (.ireturn, 1) := by decide +kernel
theorem dX12_isLikeNext_25 : decode cX12_isLikeNext 25 = .ok (.iconst 0, 1) := by decide +kernel
theorem dX12_isLikeNext_26 : decode cX12_isLikeNext 26 = .ok (.istore 4, 2) := by decide +kernel
theorem dX12_isLikeNext_28 : decode cX12_isLikeNext 28 = .ok (.iload 4, 2) := by decide +kernel
theorem dX12_isLikeNext_30 : decode cX12_isLikeNext 30 = .ok (.aload_n 0, 1) := by decide +kernel
theorem dX12_isLikeNext_31 : decode cX12_isLikeNext 31 = .ok (.getfield 719, 3) := by decide +kernel
theorem dX12_isLikeNext_34 : decode cX12_isLikeNext 34 = .ok (.if_icmp .ge 123, 3) := by decide +kernel
theorem dX12_isLikeNext_37 : decode cX12_isLikeNext 37 = .ok (.aload_n 0, 1) := by decide +kernel
theorem dX12_isLikeNext_38 : decode cX12_isLikeNext 38 = .ok (.getfield 719, 3) := by decide +kernel
theorem dX12_isLikeNext_41 : decode cX12_isLikeNext 41 = .ok (.iload_n 2, 1) := by decide +kernel
theorem dX12_isLikeNext_42 : decode cX12_isLikeNext 42 = .ok (.imul, 1) := by decide +kernel
theorem dX12_isLikeNext_43 : decode cX12_isLikeNext 43 = .ok (.iload 4, 2) := by decide +kernel
theorem dX12_isLikeNext_45 : decode cX12_isLikeNext 45 = .ok (.iadd, 1) := by decide +kernel
theorem dX12_isLikeNext_46 : decode cX12_isLikeNext 46 = .ok (.istore 5, 2) := by decide +kernel
theorem dX12_isLikeNext_48 : decode cX12_isLikeNext 48 = .ok (.iload 5, 2) := by decide +kernel
theorem dX12_isLikeNext_50 : decode cX12_isLikeNext 50 = .ok (.aload_n 0, 1) := by decide +kernel
theorem dX12_isLikeNext_51 : decode cX12_isLikeNext 51 = .ok (.getfield 719, 3) := by decide +kernel
theorem dX12_isLikeNext_54 : decode cX12_isLikeNext 54 = .ok (.iadd, 1) := by decide +kernel
theorem dX12_isLikeNext_55 : decode cX12_isLikeNext 55 = .ok (.istore 6, 2) := by decide +kernel
theorem dX12_isLikeNext_57 : decode cX12_isLikeNext 57 = .ok (.iload_n 1, 1) := by decide +kernel
theorem dX12_isLikeNext_58 : decode cX12_isLikeNext 58 = .ok (.ifCond .eq 45, 3) := by decide +kernel
theorem dX12_isLikeNext_61 : decode cX12_isLikeNext 61 = .ok (.aload_n 0, 1) := by decide +kernel
theorem dX12_isLikeNext_62 : decode cX12_isLikeNext 62 = .ok (.getfield 227, 3) := by decide +kernel
theorem dX12_isLikeNext_65 : decode cX12_isLikeNext 65 = .ok (.iload 5, 2) := by decide +kernel
theorem dX12_isLikeNext_67 : decode cX12_isLikeNext 67 = .ok (.laload, 1) := by decide +kernel
theorem dX12_isLikeNext_68 : decode cX12_isLikeNext 68 = .ok (.aload_n 0, 1) := by decide +kernel
theorem dX12_isLikeNext_69 : decode cX12_isLikeNext 69 = .ok (.getfield 230, 3) := by decide +kernel
theorem dX12_isLikeNext_72 : decode cX12_isLikeNext 72 = .ok (.iload 5, 2) := by decide +kernel
theorem dX12_isLikeNext_74 : decode cX12_isLikeNext 74 = .ok (.baload, 1) := by decide +kernel
theorem dX12_isLikeNext_75 : decode cX12_isLikeNext 75 = .ok (.aload_n 0, 1) := by decide +kernel
theorem dX12_isLikeNext_76 : decode cX12_isLikeNext 76 = .ok (.getfield 227, 3) := by decide +kernel
theorem dX12_isLikeNext_79 : decode cX12_isLikeNext 79 = .ok (.iload 6, 2) := by decide +kernel
theorem dX12_isLikeNext_81 : decode cX12_isLikeNext 81 = .ok (.laload, 1) := by decide +kernel
theorem dX12_isLikeNext_82 : decode cX12_isLikeNext 82 = .ok (.aload_n 0, 1) := by decide +kernel
theorem dX12_isLikeNext_83 : decode cX12_isLikeNext 83 = .ok (.getfield 230, 3) := by decide +kernel
theorem dX12_isLikeNext_86 : decode cX12_isLikeNext 86 = .ok (.iload 6, 2) := by decide +kernel
theorem dX12_isLikeNext_88 : decode cX12_isLikeNext 88 = .ok (.baload, 1) := by decide +kernel
theorem dX12_isLikeNext_89 : decode cX12_isLikeNext 89 = .ok (.invokestatic 596, 3) := by decide +kernel
theorem dX12_isLikeNext_92 : decode cX12_isLikeNext 92 = .ok (.ifCond .ne 7, 3) := by decide +kernel
theorem dX12_isLikeNext_95 : decode cX12_isLikeNext 95 = .ok (.iconst 1, 1) := by decide +kernel
theorem dX12_isLikeNext_96 : decode cX12_isLikeNext 96 = .ok (.goto 46, 3) := by decide +kernel
theorem dX12_isLikeNext_99 : decode cX12_isLikeNext 99 = .ok (.iconst 0, 1) := by decide +kernel
theorem dX12_isLikeNext_100 : decode cX12_isLikeNext 100 = .ok (.goto 42, 3) := by decide +kernel
theorem dX12_isLikeNext_103 : decode cX12_isLikeNext 103 = .ok (.aload_n 0, 1) := by decide +kernel
theorem dX12_isLikeNext_104 : decode cX12_isLikeNext 104 = .ok (.getfield 221, 3) := by decide +kernel
theorem dX12_isLikeNext_107 : decode cX12_isLikeNext 107 = .ok (.iload 5, 2) := by decide +kernel
theorem dX12_isLikeNext_109 : decode cX12_isLikeNext 109 = .ok (.laload, 1) := by decide +kernel
theorem dX12_isLikeNext_110 : decode cX12_isLikeNext 110 = .ok (.aload_n 0, 1) := by decide +kernel
theorem dX12_isLikeNext_111 : decode cX12_isLikeNext 111 = .ok (.getfield 224, 3) := by decide +kernel
theorem dX12_isLikeNext_114 : decode cX12_isLikeNext 114 = .ok (.iload 5, 2) := by decide +kernel
theorem dX12_isLikeNext_116 : decode cX12_isLikeNext 116 = .ok (.baload, 1) := by decide +kernel
theorem dX12_isLikeNext_117 : decode cX12_isLikeNext 117 = .ok (.aload_n 0, 1) := by decide +kernel
theorem dX12_isLikeNext_118 : decode cX12_isLikeNext 118 = .ok (.getfield 221, 3) := by decide +kernel
theorem dX12_isLikeNext_121 : decode cX12_isLikeNext 121 = .ok (.iload 6, 2) := by decide +kernel
theorem dX12_isLikeNext_123 : decode cX12_isLikeNext 123 = .ok (.laload, 1) := by decide +kernel
theorem dX12_isLikeNext_124 : decode cX12_isLikeNext 124 = .ok (.aload_n 0, 1) := by decide +kernel
theorem dX12_isLikeNext_125 : decode cX12_isLikeNext 125 = .ok (.getfield 224, 3) := by decide +kernel
theorem dX12_isLikeNext_128 : decode cX12_isLikeNext 128 = .ok (.iload 6, 2) := by decide +kernel
theorem dX12_isLikeNext_130 : decode cX12_isLikeNext 130 = .ok (.baload, 1) := by decide +kernel
theorem dX12_isLikeNext_131 : decode cX12_isLikeNext 131 = .ok (.invokestatic 596, 3) := by decide +kernel
theorem dX12_isLikeNext_134 : decode cX12_isLikeNext 134 = .ok (.ifCond .ne 7, 3) := by decide +kernel
theorem dX12_isLikeNext_137 : decode cX12_isLikeNext 137 = .ok (.iconst 1, 1) := by decide +kernel
theorem dX12_isLikeNext_138 : decode cX12_isLikeNext 138 = .ok (.goto 4, 3) := by decide +kernel
theorem dX12_isLikeNext_141 : decode cX12_isLikeNext 141 = .ok (.iconst 0, 1) := by decide +kernel
theorem dX12_isLikeNext_142 : decode cX12_isLikeNext 142 = .ok (.istore 7, 2) := by decide +kernel
theorem dX12_isLikeNext_144 : decode cX12_isLikeNext 144 = .ok (.iload 7, 2) := by decide +kernel
theorem dX12_isLikeNext_146 : decode cX12_isLikeNext 146 = .ok (.ifCond .ne 5, 3) := by decide +kernel
theorem dX12_isLikeNext_149 : decode cX12_isLikeNext 149 = .ok (.iconst 0, 1) := by decide +kernel
theorem dX12_isLikeNext_150 : decode cX12_isLikeNext 150 = .ok (.ireturn, 1) := by decide +kernel
theorem dX12_isLikeNext_151 : decode cX12_isLikeNext 151 = .ok (.iinc 4 1, 3) := by decide +kernel
theorem dX12_isLikeNext_154 : decode cX12_isLikeNext 154 = .ok (.goto (-126), 3) := by decide +kernel
theorem dX12_isLikeNext_157 : decode cX12_isLikeNext 157 = .ok (.iconst 1, 1) := by decide +kernel
theorem dX12_isLikeNext_158 : decode cX12_isLikeNext 158 = .ok (.ireturn, 1) := by decide +kernel
def m_isLikeNext_b142 (F : Nat) (cs : RS) (rc28 : Int32 → Int32 → Int32 → Option Int32) (u1 : Int32) (u2 : Int32) (u4 : Int32) (y0 : Int32) : Option Int32 := if y0 = 0 then (some 0) else (rc28 u1 u2 (u4 + 1))
def m_isLikeNext_L28 (F : Nat) (cs : RS) : Nat → Int32 → Int32 → Int32 → Option Int32
  | 0, _, _, _ => none
  | lf_28 + 1, u1, u2, u4 => if (cs.1 101) ≤ u4 then (some 1) else (if u1 = 0 then (Option.bind (rdL (cs.2.2.2 105) 4800 (((cs.1 101) * u2) + u4)) fun v_4 => Option.bind (rdI (cs.2.2.1 106) 4800 (((cs.1 101) * u2) + u4)) fun v_5 => Option.bind (rdL (cs.2.2.2 105) 4800 ((((cs.1 101) * u2) + u4) + (cs.1 101))) fun v_6 => Option.bind (rdI (cs.2.2.1 106) 4800 ((((cs.1 101) * u2) + u4) + (cs.1 101))) fun v_7 => Option.bind (m_compare F cs v_4 v_5 v_6 v_7) fun v_8 => if v_8 = 0 then (m_isLikeNext_b142 F cs (m_isLikeNext_L28 F cs lf_28) u1 u2 u4 1) else (m_isLikeNext_b142 F cs (m_isLikeNext_L28 F cs lf_28) u1 u2 u4 0)) else (Option.bind (rdL (cs.2.2.2 108) 4800 (((cs.1 101) * u2) + u4)) fun v_10 => Option.bind (rdI (cs.2.2.1 109) 4800 (((cs.1 101) * u2) + u4)) fun v_11 => Option.bind (rdL (cs.2.2.2 108) 4800 ((((cs.1 101) * u2) + u4) + (cs.1 101))) fun v_12 => Option.bind (rdI (cs.2.2.1 109) 4800 ((((cs.1 101) * u2) + u4) + (cs.1 101))) fun v_13 => Option.bind (m_compare F cs v_10 v_11 v_12 v_13) fun v_14 => if v_14 = 0 then (m_isLikeNext_b142 F cs (m_isLikeNext_L28 F cs lf_28) u1 u2 u4 1) else (m_isLikeNext_b142 F cs (m_isLikeNext_L28 F cs lf_28) u1 u2 u4 0)))
def m_isLikeNext_b15 (F : Nat) (cs : RS) (u1 : Int32) (u2 : Int32) (y0 : Int32) : Option Int32 := if (u2 + 1) < y0 then (m_isLikeNext_L28 F cs F u1 u2 0) else (some 0)
def m_isLikeNext (F : Nat) (cs : RS) (x1 : Int32) (x2 : Int32) : Option Int32 := if x1 = 0 then (m_isLikeNext_b15 F cs x1 x2 (cs.1 104)) else (m_isLikeNext_b15 F cs x1 x2 (cs.1 107))
set_option maxHeartbeats 4000000 in
set_option maxRecDepth 100000 in
theorem s_isLikeNext (l : Launch) (dC : Nat → ClassId) (dI : Nat → Nat → Nat) (cB cI cJ cZ : ClassId) (h0 : Nat) (a : Nat → Nat) (K V : Nat → Nat) (fz : Value) (F : Nat) (cs : RS) (x1 : Int32) (x2 : Int32) (r9 : Int32) (hf : m_isLikeNext F cs x1 x2 = some r9) : okI l dC dI cB cI cJ cZ h0 a K V fz yX12_isLikeNext (wsOf yX12_isLikeNext cX12_isLikeNext 8 (some .boolean)) (1) [.ref h0, .int x1, .int x2] cs cs r9 := by
  intro sz
  refine Met.ofW (cc := cX12_isLikeNext) (maxL := 8) (ret := (some .boolean)) (by decide) rfl ?_
  intro p e s m args below meth c s₁ B hml hv
  obtain ⟨rfl, hsz, hP, hK, hD0, hZ⟩ := hv
  have hx := B.exec
  have hb := B.bytes
  have hr := B.returns
  have hts := atoms_spec (ws := (wsOf yX12_isLikeNext cX12_isLikeNext 8 (some .boolean))) B.pre
  have hown : s.vm.findClass RX12 = some m.cls := findClass_of_methodNamed B.named
  have hlocks := B.notSynchronized
  subst hsz
  have hD := hD0.self (sz := s.heap.size)
  generalize hAe : va_A (mW cB cI cJ cZ h0 a cs) s.heap.size = A at hD hZ ⊢
  have hA : ∀ q : Nat, s.heap.size ≤ q → A q := fun q h => by rw [← hAe]; exact Or.inr h
  have hS : va_S A s.heap s.heap [] := va_S.rf
  have hl := lv_entry ([.ref h0, .int x1, .int x2]) (n := 8) (Nat.le_of_ble_eq_true rfl)
  rw [lg_entry_eq]
  generalize (lg_sl ([.ref h0, .int x1, .int x2]) ++ List.replicate (8 - (lg_sl ([.ref h0, .int x1, .int x2])).length) Slot.unset).toArray = ls at hl ⊢
  have hl : lv_has ls 8 [(0, .ref h0), (1, .int x1), (2, .int x2)] := hl
  have L_28 : ∀ (lf_28 : Nat), ∀ (u1 : Int32) (u2 : Int32) (u4 : Int32), m_isLikeNext_L28 F cs lf_28 u1 u2 u4 = some r9 → ∀ (H : Heap) (locs : List Loc) (ls : Array Slot), va_P (dC, dI) vwCl (mW cB cI cJ cZ h0 a cs) H → va_D A (mW cB cI cJ cZ h0 a cs) → va_S A s.heap H locs → lv_has ls 8 [(0, .ref h0), (1, .int u1), (2, .int u2), (4, .int u4)] → W p l e (headSpec (wsOf yX12_isLikeNext cX12_isLikeNext 8 (some .boolean)) ({ frames := 1, cells := 0, slots := 0, locals := 60 * (1) } : Room)).room s m ([.ref h0, .int x1, .int x2] : List Value).toArray below meth c H locs 0 0 (MQ below (va_Qi (fun (x : Int32) (_ : Unit) => x = r9) (fun _ t_ => va_P (dC, dI) vwCl (mW cB cI cJ cZ h0 a cs) t_.heap ∧ va_D A (mW cB cI cJ cZ h0 a cs)) A) ([.ref h0, .int x1, .int x2] : List Value).toArray s 0 0 A) (F0 m 28 ls []) := by
    intro lf_28
    induction lf_28 with
    | zero => intro u1 u2 u4 h; cases (show (none : Option Int32) = _ from h)
    | succ lf_28 ih_28 =>
      have B_142 : ∀ (u1 : Int32) (u2 : Int32) (u4 : Int32) (y0 : Int32), m_isLikeNext_b142 F cs (m_isLikeNext_L28 F cs lf_28) u1 u2 u4 y0 = some r9 → ∀ (H : Heap) (locs : List Loc) (ls : Array Slot), va_P (dC, dI) vwCl (mW cB cI cJ cZ h0 a cs) H → va_D A (mW cB cI cJ cZ h0 a cs) → va_S A s.heap H locs → lv_has ls 8 [(0, .ref h0), (1, .int u1), (2, .int u2), (4, .int u4)] → W p l e (headSpec (wsOf yX12_isLikeNext cX12_isLikeNext 8 (some .boolean)) ({ frames := 1, cells := 0, slots := 0, locals := 60 * (1) } : Room)).room s m ([.ref h0, .int x1, .int x2] : List Value).toArray below meth c H locs 0 0 (MQ below (va_Qi (fun (x : Int32) (_ : Unit) => x = r9) (fun _ t_ => va_P (dC, dI) vwCl (mW cB cI cJ cZ h0 a cs) t_.heap ∧ va_D A (mW cB cI cJ cZ h0 a cs)) A) ([.ref h0, .int x1, .int x2] : List Value).toArray s 0 0 A) (F0 m 142 ls [.int y0]) := by
        intro u1 u2 u4 y0 h H locs ls hP hD hS hl
        unfold m_isLikeNext_b142 at h
        refine lv_istore (lv' := [(7, .int y0), (0, .ref h0), (1, .int u1), (2, .int u2), (4, .int u4)]) hx hb dX12_isLikeNext_142 hl (by decide) rfl (fun ls hl => ?_)
        refine lv_iload hx hb dX12_isLikeNext_144 (lv_at hl 0 rfl) ?_
        refine lv_if_ne (tgt := 151) hx hb dX12_isLikeNext_146 (by decide) (fun c_1 => ?_) (fun c_1 => ?_)
        · skip
          replace h := (if_neg c_1).symm.trans h
          refine lv_iinc (v := u4 + 1) (lv' := [(4, .int (u4 + 1)), (7, .int y0), (0, .ref h0), (1, .int u1), (2, .int u2)]) hx hb dX12_isLikeNext_151 hl (k := 4) rfl rfl (by decide) rfl (fun ls hl => ?_)
          refine lv_goto (tgt := 28) hx hb dX12_isLikeNext_154 (by decide) ?_
          exact ih_28 u1 u2 (u4 + 1) h _ _ _ hP hD hS (lv_sub hl [2, 3, 4, 0] rfl)
        · skip
          replace h := (if_pos c_1).symm.trans h
          refine lv_iconst (v := 0) hx hb dX12_isLikeNext_149 (by decide) ?_
          have e2 := Option.some.inj h
          exact W.zret (v := 0) hx hb hr (nzN (Or.inl rfl)) (fun t_ ht hW => ⟨⟨0, (), rfl, e2, by rw [ht]; exact hP, hD⟩, hS.F ht⟩) hS.2.2 dX12_isLikeNext_150
      intro u1 u2 u4 h H locs ls hP hD hS hl
      rw [m_isLikeNext_L28] at h
      refine lv_iload hx hb dX12_isLikeNext_28 (lv_at hl 3 rfl) ?_
      refine lv_aload_n hx hb dX12_isLikeNext_30 rfl (lv_at hl 0 rfl) ?_
      refine fg_101 hx hb hts hown hK hP dX12_isLikeNext_31 ?_
      refine lv_icmp_ge (tgt := 157) hx hb dX12_isLikeNext_34 (by decide) (fun c_2 => ?_) (fun c_2 => ?_)
      · skip
        replace h := (if_pos c_2).symm.trans h
        refine lv_iconst (v := 1) hx hb dX12_isLikeNext_157 (by decide) ?_
        have e2 := Option.some.inj h
        exact W.zret (v := 1) hx hb hr (nzN (Or.inr rfl)) (fun t_ ht hW => ⟨⟨1, (), rfl, e2, by rw [ht]; exact hP, hD⟩, hS.F ht⟩) hS.2.2 dX12_isLikeNext_158
      · skip
        replace h := (if_neg c_2).symm.trans h
        refine lv_aload_n hx hb dX12_isLikeNext_37 rfl (lv_at hl 0 rfl) ?_
        refine fg_101 hx hb hts hown hK hP dX12_isLikeNext_38 ?_
        refine lv_iload_n hx hb dX12_isLikeNext_41 rfl (lv_at hl 2 rfl) ?_
        refine lv_imul hx hb dX12_isLikeNext_42 ?_
        refine lv_iload hx hb dX12_isLikeNext_43 (lv_at hl 3 rfl) ?_
        refine lv_iadd hx hb dX12_isLikeNext_45 ?_
        refine lv_istore (lv' := [(5, .int (((cs.1 101) * u2) + u4)), (0, .ref h0), (1, .int u1), (2, .int u2), (4, .int u4)]) hx hb dX12_isLikeNext_46 hl (by decide) rfl (fun ls hl => ?_)
        refine lv_iload hx hb dX12_isLikeNext_48 (lv_at hl 0 rfl) ?_
        refine lv_aload_n hx hb dX12_isLikeNext_50 rfl (lv_at hl 1 rfl) ?_
        refine fg_101 hx hb hts hown hK hP dX12_isLikeNext_51 ?_
        refine lv_iadd hx hb dX12_isLikeNext_54 ?_
        refine lv_istore (lv' := [(6, .int ((((cs.1 101) * u2) + u4) + (cs.1 101))), (5, .int (((cs.1 101) * u2) + u4)), (0, .ref h0), (1, .int u1), (2, .int u2), (4, .int u4)]) hx hb dX12_isLikeNext_55 hl (by decide) rfl (fun ls hl => ?_)
        refine lv_iload_n hx hb dX12_isLikeNext_57 rfl (lv_at hl 3 rfl) ?_
        refine lv_if_eq (tgt := 103) hx hb dX12_isLikeNext_58 (by decide) (fun c_3 => ?_) (fun c_3 => ?_)
        · skip
          replace h := (if_pos c_3).symm.trans h
          refine lv_aload_n hx hb dX12_isLikeNext_103 rfl (lv_at hl 2 rfl) ?_
          refine fg_105 hx hb hts hown hK hP dX12_isLikeNext_104 ?_
          refine lv_iload hx hb dX12_isLikeNext_107 (lv_at hl 1 rfl) ?_
          obtain ⟨v_4, hv_4, h⟩ := ob h
          refine ag_105 hx hb hK hP hv_4 dX12_isLikeNext_109 ?_
          refine lv_aload_n hx hb dX12_isLikeNext_110 rfl (lv_at hl 2 rfl) ?_
          refine fg_106 hx hb hts hown hK hP dX12_isLikeNext_111 ?_
          refine lv_iload hx hb dX12_isLikeNext_114 (lv_at hl 1 rfl) ?_
          obtain ⟨v_5, hv_5, h⟩ := ob h
          refine ag_106 hx hb hK hP hv_5 dX12_isLikeNext_116 ?_
          refine lv_aload_n hx hb dX12_isLikeNext_117 rfl (lv_at hl 2 rfl) ?_
          refine fg_105 hx hb hts hown hK hP dX12_isLikeNext_118 ?_
          refine lv_iload hx hb dX12_isLikeNext_121 (lv_at hl 0 rfl) ?_
          obtain ⟨v_6, hv_6, h⟩ := ob h
          refine ag_105 hx hb hK hP hv_6 dX12_isLikeNext_123 ?_
          refine lv_aload_n hx hb dX12_isLikeNext_124 rfl (lv_at hl 2 rfl) ?_
          refine fg_106 hx hb hts hown hK hP dX12_isLikeNext_125 ?_
          refine lv_iload hx hb dX12_isLikeNext_128 (lv_at hl 0 rfl) ?_
          obtain ⟨v_7, hv_7, h⟩ := ob h
          refine ag_106 hx hb hK hP hv_7 dX12_isLikeNext_130 ?_
          obtain ⟨v_8, hv_8, h⟩ := ob h
          refine calSI (As := [.long v_4, .int v_5, .long v_6, .int v_7]) hx hb hml hts hown hK hP hD hS hA hZ (s_compare l dC dI cB cI cJ cZ h0 a K V fz F cs v_4 v_5 v_6 v_7 v_8 hv_8) (cw_compare hts (fr := 0) (Nat.le_of_ble_eq_true rfl) (Nat.le_of_ble_eq_true rfl)) rfl hl.1 (Nat.le_of_ble_eq_true rfl) ⟨Nat.zero_le _, Nat.zero_le _⟩ dX12_isLikeNext_131 (fun H locs hP hD hS => ?_)
          refine lv_if_ne (tgt := 141) hx hb dX12_isLikeNext_134 (by decide) (fun c_9 => ?_) (fun c_9 => ?_)
          · skip
            replace h := (if_neg c_9).symm.trans h
            refine lv_iconst (v := 0) hx hb dX12_isLikeNext_141 (by decide) ?_
            exact B_142 u1 u2 u4 0 h _ _ _ hP hD hS (lv_sub hl [2, 3, 4, 5] rfl)
          · skip
            replace h := (if_pos c_9).symm.trans h
            refine lv_iconst (v := 1) hx hb dX12_isLikeNext_137 (by decide) ?_
            refine lv_goto (tgt := 142) hx hb dX12_isLikeNext_138 (by decide) ?_
            exact B_142 u1 u2 u4 1 h _ _ _ hP hD hS (lv_sub hl [2, 3, 4, 5] rfl)
        · skip
          replace h := (if_neg c_3).symm.trans h
          refine lv_aload_n hx hb dX12_isLikeNext_61 rfl (lv_at hl 2 rfl) ?_
          refine fg_108 hx hb hts hown hK hP dX12_isLikeNext_62 ?_
          refine lv_iload hx hb dX12_isLikeNext_65 (lv_at hl 1 rfl) ?_
          obtain ⟨v_10, hv_10, h⟩ := ob h
          refine ag_108 hx hb hK hP hv_10 dX12_isLikeNext_67 ?_
          refine lv_aload_n hx hb dX12_isLikeNext_68 rfl (lv_at hl 2 rfl) ?_
          refine fg_109 hx hb hts hown hK hP dX12_isLikeNext_69 ?_
          refine lv_iload hx hb dX12_isLikeNext_72 (lv_at hl 1 rfl) ?_
          obtain ⟨v_11, hv_11, h⟩ := ob h
          refine ag_109 hx hb hK hP hv_11 dX12_isLikeNext_74 ?_
          refine lv_aload_n hx hb dX12_isLikeNext_75 rfl (lv_at hl 2 rfl) ?_
          refine fg_108 hx hb hts hown hK hP dX12_isLikeNext_76 ?_
          refine lv_iload hx hb dX12_isLikeNext_79 (lv_at hl 0 rfl) ?_
          obtain ⟨v_12, hv_12, h⟩ := ob h
          refine ag_108 hx hb hK hP hv_12 dX12_isLikeNext_81 ?_
          refine lv_aload_n hx hb dX12_isLikeNext_82 rfl (lv_at hl 2 rfl) ?_
          refine fg_109 hx hb hts hown hK hP dX12_isLikeNext_83 ?_
          refine lv_iload hx hb dX12_isLikeNext_86 (lv_at hl 0 rfl) ?_
          obtain ⟨v_13, hv_13, h⟩ := ob h
          refine ag_109 hx hb hK hP hv_13 dX12_isLikeNext_88 ?_
          obtain ⟨v_14, hv_14, h⟩ := ob h
          refine calSI (As := [.long v_10, .int v_11, .long v_12, .int v_13]) hx hb hml hts hown hK hP hD hS hA hZ (s_compare l dC dI cB cI cJ cZ h0 a K V fz F cs v_10 v_11 v_12 v_13 v_14 hv_14) (cw_compare hts (fr := 0) (Nat.le_of_ble_eq_true rfl) (Nat.le_of_ble_eq_true rfl)) rfl hl.1 (Nat.le_of_ble_eq_true rfl) ⟨Nat.zero_le _, Nat.zero_le _⟩ dX12_isLikeNext_89 (fun H locs hP hD hS => ?_)
          refine lv_if_ne (tgt := 99) hx hb dX12_isLikeNext_92 (by decide) (fun c_15 => ?_) (fun c_15 => ?_)
          · skip
            replace h := (if_neg c_15).symm.trans h
            refine lv_iconst (v := 0) hx hb dX12_isLikeNext_99 (by decide) ?_
            refine lv_goto (tgt := 142) hx hb dX12_isLikeNext_100 (by decide) ?_
            exact B_142 u1 u2 u4 0 h _ _ _ hP hD hS (lv_sub hl [2, 3, 4, 5] rfl)
          · skip
            replace h := (if_pos c_15).symm.trans h
            refine lv_iconst (v := 1) hx hb dX12_isLikeNext_95 (by decide) ?_
            refine lv_goto (tgt := 142) hx hb dX12_isLikeNext_96 (by decide) ?_
            exact B_142 u1 u2 u4 1 h _ _ _ hP hD hS (lv_sub hl [2, 3, 4, 5] rfl)
  have B_15 : ∀ (u1 : Int32) (u2 : Int32) (y0 : Int32), m_isLikeNext_b15 F cs u1 u2 y0 = some r9 → ∀ (H : Heap) (locs : List Loc) (ls : Array Slot), va_P (dC, dI) vwCl (mW cB cI cJ cZ h0 a cs) H → va_D A (mW cB cI cJ cZ h0 a cs) → va_S A s.heap H locs → lv_has ls 8 [(0, .ref h0), (1, .int u1), (2, .int u2)] → W p l e (headSpec (wsOf yX12_isLikeNext cX12_isLikeNext 8 (some .boolean)) ({ frames := 1, cells := 0, slots := 0, locals := 60 * (1) } : Room)).room s m ([.ref h0, .int x1, .int x2] : List Value).toArray below meth c H locs 0 0 (MQ below (va_Qi (fun (x : Int32) (_ : Unit) => x = r9) (fun _ t_ => va_P (dC, dI) vwCl (mW cB cI cJ cZ h0 a cs) t_.heap ∧ va_D A (mW cB cI cJ cZ h0 a cs)) A) ([.ref h0, .int x1, .int x2] : List Value).toArray s 0 0 A) (F0 m 15 ls [.int y0]) := by
    intro u1 u2 y0 h H locs ls hP hD hS hl
    unfold m_isLikeNext_b15 at h
    refine lv_istore_n (lv' := [(3, .int y0), (0, .ref h0), (1, .int u1), (2, .int u2)]) hx hb dX12_isLikeNext_15 rfl hl (by decide) rfl (fun ls hl => ?_)
    refine lv_iload_n hx hb dX12_isLikeNext_16 rfl (lv_at hl 3 rfl) ?_
    refine lv_iconst (v := 1) hx hb dX12_isLikeNext_17 (by decide) ?_
    refine lv_iadd hx hb dX12_isLikeNext_18 ?_
    refine lv_iload_n hx hb dX12_isLikeNext_19 rfl (lv_at hl 0 rfl) ?_
    refine lv_icmp_lt (tgt := 25) hx hb dX12_isLikeNext_20 (by decide) (fun c_16 => ?_) (fun c_16 => ?_)
    · skip
      replace h := (if_pos c_16).symm.trans h
      refine lv_iconst (v := 0) hx hb dX12_isLikeNext_25 (by decide) ?_
      refine lv_istore (lv' := [(4, .int 0), (3, .int y0), (0, .ref h0), (1, .int u1), (2, .int u2)]) hx hb dX12_isLikeNext_26 hl (by decide) rfl (fun ls hl => ?_)
      exact L_28 F u1 u2 0 h _ _ _ hP hD hS (lv_sub hl [2, 3, 4, 0] rfl)
    · skip
      replace h := (if_neg c_16).symm.trans h
      refine lv_iconst (v := 0) hx hb dX12_isLikeNext_23 (by decide) ?_
      have e2 := Option.some.inj h
      exact W.zret (v := 0) hx hb hr (nzN (Or.inl rfl)) (fun t_ ht hW => ⟨⟨0, (), rfl, e2, by rw [ht]; exact hP, hD⟩, hS.F ht⟩) hS.2.2 dX12_isLikeNext_24
  have h := hf
  unfold m_isLikeNext at h
  refine lv_iload_n hx hb dX12_isLikeNext_0 rfl (lv_at hl 1 rfl) ?_
  refine lv_if_eq (tgt := 11) hx hb dX12_isLikeNext_1 (by decide) (fun c_17 => ?_) (fun c_17 => ?_)
  · skip
    replace h := (if_pos c_17).symm.trans h
    refine lv_aload_n hx hb dX12_isLikeNext_11 rfl (lv_at hl 0 rfl) ?_
    refine fg_104 hx hb hts hown hK hP dX12_isLikeNext_12 ?_
    exact B_15 x1 x2 (cs.1 104) h _ _ _ hP hD hS (lv_sub hl [0, 1, 2] rfl)
  · skip
    replace h := (if_neg c_17).symm.trans h
    refine lv_aload_n hx hb dX12_isLikeNext_4 rfl (lv_at hl 0 rfl) ?_
    refine fg_107 hx hb hts hown hK hP dX12_isLikeNext_5 ?_
    refine lv_goto (tgt := 15) hx hb dX12_isLikeNext_8 (by decide) ?_
    exact B_15 x1 x2 (cs.1 107) h _ _ _ hP hD hS (lv_sub hl [0, 1, 2] rfl)
theorem cw_isLikeNext {R : Room} {s : State} {args : Array Value} {y0 : MethodName} {c0 : ByteArray} {n0 : Nat} {r0 : Option FieldType} (hts : ∀ w ∈ wsOf y0 c0 n0 r0, w.before args s = true) {fr : Nat} (h1 : fr + 1 ≤ R.frames) (h2 : 8 + (8 + 11) + 60 * fr ≤ R.locals) : CallW R s args RX12 RX12 733 yX12_isLikeNext cX12_isLikeNext 8 (some .boolean) (wsOf yX12_isLikeNext cX12_isLikeNext 8 (some .boolean)) ({ frames := fr, cells := 0, slots := 0, locals := 60 * fr } : Room) 0 0 2 := cwV 2 hts (gd_all (in_V kw_2208 kw_2210 kw_131 kw_191 kc_X12_isLikeNext)) rfl rfl rfl (by decide +kernel) ⟨h1, h2⟩
theorem dX12_differ_0 : decode cX12_differ 0 = .ok (.iconst 0, 1) := by decide +kernel
theorem dX12_differ_1 : decode cX12_differ 1 = .ok (.istore_n 2, 1) := by decide +kernel
theorem dX12_differ_2 : decode cX12_differ 2 = .ok (.iconst 0, 1) := by decide +kernel
theorem dX12_differ_3 : decode cX12_differ 3 = .ok (.istore_n 3, 1) := by decide +kernel
theorem dX12_differ_4 : decode cX12_differ 4 = .ok (.iload_n 2, 1) := by decide +kernel
theorem dX12_differ_5 : decode cX12_differ 5 = .ok (.aload_n 0, 1) := by decide +kernel
theorem dX12_differ_6 : decode cX12_differ 6 = .ok (.getfield 716, 3) := by decide +kernel
theorem dX12_differ_9 : decode cX12_differ 9 = .ok (.if_icmp .lt 11, 3) := by decide +kernel
theorem dX12_differ_12 : decode cX12_differ 12 = .ok (.iload_n 3, 1) := by decide +kernel
theorem dX12_differ_13 : decode cX12_differ 13 = .ok (.aload_n 0, 1) := by decide +kernel
theorem dX12_differ_14 : decode cX12_differ 14 = .ok (.getfield 713, 3) := by decide +kernel
theorem dX12_differ_17 : decode cX12_differ 17 = .ok (.if_icmp .ge 286, 3) := by decide +kernel
theorem dX12_differ_20 : decode cX12_differ 20 = .ok (.iload_n 2, 1) := by decide +kernel
theorem dX12_differ_21 : decode cX12_differ 21 = .ok (.aload_n 0, 1) := by decide +kernel
theorem dX12_differ_22 : decode cX12_differ 22 = .ok (.getfield 716, 3) := by decide +kernel
theorem dX12_differ_25 : decode cX12_differ 25 = .ok (.if_icmp .ne 7, 3) := by decide +kernel
theorem dX12_differ_28 : decode cX12_differ 28 = .ok (.iconst 1, 1) := by decide +kernel
theorem dX12_differ_29 : decode cX12_differ 29 = .ok (.goto 21, 3) := by decide +kernel
theorem dX12_differ_32 : decode cX12_differ 32 = .ok (.iload_n 3, 1) := by decide +kernel
theorem dX12_differ_33 : decode cX12_differ 33 = .ok (.aload_n 0, 1) := by decide +kernel
theorem dX12_differ_34 : decode cX12_differ 34 = .ok (.getfield 713, 3) := by decide +kernel
theorem dX12_differ_37 : decode cX12_differ 37 = .ok (.if_icmp .ne 7, 3) := by decide +kernel
theorem dX12_differ_40 : decode cX12_differ 40 = .ok (.iconst (-1), 1) := by decide +kernel
theorem dX12_differ_41 : decode cX12_differ 41 = .ok (.goto 9, 3) := by decide +kernel
theorem dX12_differ_44 : decode cX12_differ 44 = .ok (.aload_n 0, 1) := by decide +kernel
theorem dX12_differ_45 : decode cX12_differ 45 = .ok (.iload_n 2, 1) := by decide +kernel
theorem dX12_differ_46 : decode cX12_differ 46 = .ok (.iload_n 3, 1) := by decide +kernel
theorem dX12_differ_47 : decode cX12_differ 47 = .ok (.invokevirtual 730, 3) := by decide +kernel
theorem dX12_differ_50 : decode cX12_differ 50 = .ok (.istore 4, 2) := by decide +kernel
theorem dX12_differ_52 : decode cX12_differ 52 = .ok (.iconst 0, 1) := by decide +kernel
theorem dX12_differ_53 : decode cX12_differ 53 = .ok (.istore 5, 2) := by decide +kernel
theorem dX12_differ_55 : decode cX12_differ 55 = .ok (.iload 4, 2) := by decide +kernel
theorem dX12_differ_57 : decode cX12_differ 57 = .ok (.ifCond .gt 7, 3) := by decide +kernel
theorem dX12_differ_60 : decode cX12_differ 60 = .ok (.iload_n 2, 1) := by decide +kernel
theorem dX12_differ_61 : decode cX12_differ 61 = .ok (.goto 4, 3) := by decide +kernel
theorem dX12_differ_64 : decode cX12_differ 64 = .ok (.iconst (-1), 1) := by decide +kernel
theorem dX12_differ_65 : decode cX12_differ 65 = .ok (.istore 6, 2) := by decide +kernel
theorem dX12_differ_67 : decode cX12_differ 67 = .ok (.iload 4, 2) := by decide +kernel
theorem dX12_differ_69 : decode cX12_differ 69 = .ok (.ifCond .lt 7, 3) := by decide +kernel
theorem dX12_differ_72 : decode cX12_differ 72 = .ok (.iload_n 3, 1) := by decide +kernel
theorem dX12_differ_73 : decode cX12_differ 73 = .ok (.goto 4, 3) := by decide +kernel
theorem dX12_differ_76 : decode cX12_differ 76 = .ok (.iconst (-1), 1) := by decide +kernel
theorem dX12_differ_77 : decode cX12_differ 77 = .ok (.istore 7, 2) := by decide +kernel
theorem dX12_differ_79 : decode cX12_differ 79 = .ok (.iload 4, 2) := by decide +kernel
theorem dX12_differ_81 : decode cX12_differ 81 = .ok (.ifCond .gt 27, 3) := by decide +kernel
theorem dX12_differ_84 : decode cX12_differ 84 = .ok (.iinc 5 (-1), 3) := by decide +kernel
theorem dX12_differ_87 : decode cX12_differ 87 = .ok (.aload_n 0, 1) := by decide +kernel
theorem dX12_differ_88 : decode cX12_differ 88 = .ok (.iconst 1, 1) := by decide +kernel
theorem dX12_differ_89 : decode cX12_differ 89 = .ok (.iload_n 2, 1) := by decide +kernel
theorem dX12_differ_90 : decode cX12_differ 90 = .ok (.invokevirtual 733, 3) := by decide +kernel
theorem dX12_differ_93 : decode cX12_differ 93 = .ok (.ifCond .eq 12, 3) := by decide +kernel
theorem dX12_differ_96 : decode cX12_differ 96 = .ok (.iinc 2 1, 3) := by decide +kernel
theorem dX12_differ_99 : decode cX12_differ 99 = .ok (.iinc 5 (-1), 3) := by decide +kernel
theorem dX12_differ_102 : decode cX12_differ 102 = .ok (.goto (-15), 3) := by decide +kernel
theorem dX12_differ_105 : decode cX12_differ 105 = .ok (.iinc 2 1, 3) := by decide +kernel
theorem dX12_differ_108 : decode cX12_differ 108 = .ok (.iload 4, 2) := by decide +kernel
theorem dX12_differ_110 : decode cX12_differ 110 = .ok (.ifCond .lt 27, 3) := by decide +kernel
theorem dX12_differ_113 : decode cX12_differ 113 = .ok (.iinc 5 1, 3) := by decide +kernel
theorem dX12_differ_116 : decode cX12_differ 116 = .ok (.aload_n 0, 1) := by decide +kernel
theorem dX12_differ_117 : decode cX12_differ 117 = .ok (.iconst 0, 1) := by decide +kernel
theorem dX12_differ_118 : decode cX12_differ 118 = .ok (.iload_n 3, 1) := by decide +kernel
theorem dX12_differ_119 : decode cX12_differ 119 = .ok (.invokevirtual 733, 3) := by decide +kernel
theorem dX12_differ_122 : decode cX12_differ 122 = .ok (.ifCond .eq 12, 3) := by decide +kernel
theorem dX12_differ_125 : decode cX12_differ 125 = .ok (.iinc 3 1, 3) := by decide +kernel
theorem dX12_differ_128 : decode cX12_differ 128 = .ok (.iinc 5 1, 3) := by decide +kernel
theorem dX12_differ_131 : decode cX12_differ 131 = .ok (.goto (-15), 3) := by decide +kernel
theorem dX12_differ_134 : decode cX12_differ 134 = .ok (.iinc 3 1, 3) := by decide +kernel
theorem dX12_differ_137 : decode cX12_differ 137 = .ok (.iload 5, 2) := by decide +kernel
theorem dX12_differ_139 : decode cX12_differ 139 = .ok (.ifCond .le 7, 3) := by decide +kernel
theorem dX12_differ_142 : decode cX12_differ 142 = .ok (.iload_n 1, 1) := by decide +kernel
theorem dX12_differ_143 : decode cX12_differ 143 = .ok (.ifCond .ne 12, 3) := by decide +kernel
theorem dX12_differ_146 : decode cX12_differ 146 = .ok (.iload 5, 2) := by decide +kernel
theorem dX12_differ_148 : decode cX12_differ 148 = .ok (.ifCond .ge 152, 3) := by decide +kernel
theorem dX12_differ_151 : decode cX12_differ 151 = .ok (.iload_n 1, 1) := by decide +kernel
theorem dX12_differ_152 : decode cX12_differ 152 = .ok (.ifCond .ne 148, 3) := by decide +kernel
theorem dX12_differ_155 : decode cX12_differ 155 = .ok (.aload_n 0, 1) := by decide +kernel
theorem dX12_differ_156 : decode cX12_differ 156 = .ok (.getfield 233, 3) := by decide +kernel
theorem dX12_differ_159 : decode cX12_differ 159 = .ok (.aload_n 0, 1) := by decide +kernel
theorem dX12_differ_160 : decode cX12_differ 160 = .ok (.getfield 271, 3) := by decide +kernel
theorem dX12_differ_163 : decode cX12_differ 163 = .ok (.iload 5, 2) := by decide +kernel
theorem dX12_differ_165 : decode cX12_differ 165 = .ok (.iastore, 1) := by decide +kernel
theorem dX12_differ_166 : decode cX12_differ 166 = .ok (.iconst 0, 1) := by decide +kernel
theorem dX12_differ_167 : decode cX12_differ 167 = .ok (.istore 8, 2) := by decide +kernel
theorem dX12_differ_169 : decode cX12_differ 169 = .ok (.iload 8, 2) := by decide +kernel
theorem dX12_differ_171 : decode cX12_differ 171 = .ok (.aload_n 0, 1) := by decide +kernel
theorem dX12_differ_172 : decode cX12_differ 172 = .ok (.getfield 719, 3) := by decide +kernel
theorem dX12_differ_175 : decode cX12_differ 175 = .ok (.if_icmp .ge 115, 3) := by decide +kernel
theorem dX12_differ_178 : decode cX12_differ 178 = .ok (.aload_n 0, 1) := by decide +kernel
theorem dX12_differ_179 : decode cX12_differ 179 = .ok (.getfield 719, 3) := by decide +kernel
theorem dX12_differ_182 : decode cX12_differ 182 = .ok (.aload_n 0, 1) := by decide +kernel
theorem dX12_differ_183 : decode cX12_differ 183 = .ok (.getfield 271, 3) := by decide +kernel
theorem dX12_differ_186 : decode cX12_differ 186 = .ok (.imul, 1) := by decide +kernel
theorem dX12_differ_187 : decode cX12_differ 187 = .ok (.iload 8, 2) := by decide +kernel
theorem dX12_differ_189 : decode cX12_differ 189 = .ok (.iadd, 1) := by decide +kernel
theorem dX12_differ_190 : decode cX12_differ 190 = .ok (.istore 9, 2) := by decide +kernel
theorem dX12_differ_192 : decode cX12_differ 192 = .ok (.aload_n 0, 1) := by decide +kernel
theorem dX12_differ_193 : decode cX12_differ 193 = .ok (.getfield 236, 3) := by decide +kernel
theorem dX12_differ_196 : decode cX12_differ 196 = .ok (.iload 9, 2) := by decide +kernel
theorem dX12_differ_198 : decode cX12_differ 198 = .ok (.iload 6, 2) := by decide +kernel
theorem dX12_differ_200 : decode cX12_differ 200 = .ok (.iconst (-1), 1) := by decide +kernel
theorem dX12_differ_201 : decode cX12_differ 201 = .ok (.if_icmp .eq 21, 3) := by decide +kernel
theorem dX12_differ_204 : decode cX12_differ 204 = .ok (.aload_n 0, 1) := by decide +kernel
theorem dX12_differ_205 : decode cX12_differ 205 = .ok (.getfield 227, 3) := by decide +kernel
theorem dX12_differ_208 : decode cX12_differ 208 = .ok (.aload_n 0, 1) := by decide +kernel
theorem dX12_differ_209 : decode cX12_differ 209 = .ok (.getfield 719, 3) := by decide +kernel
theorem dX12_differ_212 : decode cX12_differ 212 = .ok (.iload 6, 2) := by decide +kernel
theorem dX12_differ_214 : decode cX12_differ 214 = .ok (.imul, 1) := by decide +kernel
theorem dX12_differ_215 : decode cX12_differ 215 = .ok (.iload 8, 2) := by decide +kernel
theorem dX12_differ_217 : decode cX12_differ 217 = .ok (.iadd, 1) := by decide +kernel
theorem dX12_differ_218 : decode cX12_differ 218 = .ok (.laload, 1) := by decide +kernel
theorem dX12_differ_219 : decode cX12_differ 219 = .ok (.goto 18, 3) := by decide +kernel
theorem dX12_differ_222 : decode cX12_differ 222 = .ok (.aload_n 0, 1) := by decide +kernel
theorem dX12_differ_223 : decode cX12_differ 223 = .ok (.getfield 221, 3) := by decide +kernel
theorem dX12_differ_226 : decode cX12_differ 226 = .ok (.aload_n 0, 1) := by decide +kernel
theorem dX12_differ_227 : decode cX12_differ 227 = .ok (.getfield 719, 3) := by decide +kernel
theorem dX12_differ_230 : decode cX12_differ 230 = .ok (.iload 7, 2) := by decide +kernel
theorem dX12_differ_232 : decode cX12_differ 232 = .ok (.imul, 1) := by decide +kernel
theorem dX12_differ_233 : decode cX12_differ 233 = .ok (.iload 8, 2) := by decide +kernel
theorem dX12_differ_235 : decode cX12_differ 235 = .ok (.iadd, 1) := by decide +kernel
theorem dX12_differ_236 : decode cX12_differ 236 = .ok (.laload, 1) := by decide +kernel
theorem dX12_differ_237 : decode cX12_differ 237 = .ok (.lastore, 1) := by decide +kernel
theorem dX12_differ_238 : decode cX12_differ 238 = .ok (.aload_n 0, 1) := by decide +kernel
theorem dX12_differ_239 : decode cX12_differ 239 = .ok (.getfield 239, 3) := by decide +kernel
theorem dX12_differ_242 : decode cX12_differ 242 = .ok (.iload 9, 2) := by decide +kernel
theorem dX12_differ_244 : decode cX12_differ 244 = .ok (.iload 6, 2) := by decide +kernel
theorem dX12_differ_246 : decode cX12_differ 246 = .ok (.iconst (-1), 1) := by decide +kernel
theorem dX12_differ_247 : decode cX12_differ 247 = .ok (.if_icmp .eq 21, 3) := by decide +kernel
theorem dX12_differ_250 : decode cX12_differ 250 = .ok (.aload_n 0, 1) := by decide +kernel
theorem dX12_differ_251 : decode cX12_differ 251 = .ok (.getfield 230, 3) := by decide +kernel
theorem dX12_differ_254 : decode cX12_differ 254 = .ok (.aload_n 0, 1) := by decide +kernel
theorem dX12_differ_255 : decode cX12_differ 255 = .ok (.getfield 719, 3) := by decide +kernel
theorem dX12_differ_258 : decode cX12_differ 258 = .ok (.iload 6, 2) := by decide +kernel
theorem dX12_differ_260 : decode cX12_differ 260 = .ok (.imul, 1) := by decide +kernel
theorem dX12_differ_261 : decode cX12_differ 261 = .ok (.iload 8, 2) := by decide +kernel
theorem dX12_differ_263 : decode cX12_differ 263 = .ok (.iadd, 1) := by decide +kernel
theorem dX12_differ_264 : decode cX12_differ 264 = .ok (.baload, 1) := by decide +kernel
theorem dX12_differ_265 : decode cX12_differ 265 = .ok (.goto 18, 3) := by decide +kernel
theorem dX12_differ_268 : decode cX12_differ 268 = .ok (.aload_n 0, 1) := by decide +kernel
theorem dX12_differ_269 : decode cX12_differ 269 = .ok (.getfield 224, 3) := by decide +kernel
theorem dX12_differ_272 : decode cX12_differ 272 = .ok (.aload_n 0, 1) := by decide +kernel
theorem dX12_differ_273 : decode cX12_differ 273 = .ok (.getfield 719, 3) := by decide +kernel
theorem dX12_differ_276 : decode cX12_differ 276 = .ok (.iload 7, 2) := by decide +kernel
theorem dX12_differ_278 : decode cX12_differ 278 = .ok (.imul, 1) := by decide +kernel
theorem dX12_differ_279 : decode cX12_differ 279 = .ok (.iload 8, 2) := by decide +kernel
theorem dX12_differ_281 : decode cX12_differ 281 = .ok (.iadd, 1) := by decide +kernel
theorem dX12_differ_282 : decode cX12_differ 282 = .ok (.baload, 1) := by decide +kernel
theorem dX12_differ_283 : decode cX12_differ 283 = .ok (.bastore, 1) := by decide +kernel
theorem dX12_differ_284 : decode cX12_differ 284 = .ok (.iinc 8 1, 3) := by decide +kernel
theorem dX12_differ_287 : decode cX12_differ 287 = .ok (.goto (-118), 3) := by decide +kernel
theorem dX12_differ_290 : decode cX12_differ 290 = .ok (.aload_n 0, 1) := by decide +kernel
theorem dX12_differ_291 : decode cX12_differ 291 = .ok (.dup, 1) := by decide +kernel
theorem dX12_differ_292 : decode cX12_differ 292 = .ok (.getfield 271, 3) := by decide +kernel
theorem dX12_differ_295 : decode cX12_differ 295 = .ok (.iconst 1, 1) := by decide +kernel
theorem dX12_differ_296 : decode cX12_differ 296 = .ok (.iadd, 1) := by decide +kernel
theorem dX12_differ_297 : decode cX12_differ 297 = .ok (.putfield 271, 3) := by decide +kernel
theorem dX12_differ_300 : decode cX12_differ 300 = .ok (.goto (-296), 3) := by decide +kernel
theorem dX12_differ_303 : decode cX12_differ 303 = .ok (.return_, 1) := by decide +kernel
def m_differ_b300 (F : Nat) (rc4 : RS → Int32 → Int32 → Int32 → Option RS) (cs1 : RS) (u1 : Int32) (u2 : Int32) (u3 : Int32) : Option RS := rc4 cs1 u1 u2 u3
def m_differ_b283 (F : Nat) (rc4 : RS → Int32 → Int32 → Int32 → Option RS) (rc169 : RS → Int32 → Int32 → Int32 → Int32 → Int32 → Int32 → Option RS) (cs1 : RS) (u1 : Int32) (u2 : Int32) (u3 : Int32) (u6 : Int32) (u7 : Int32) (u8 : Int32) (y0 : Int32) (y1 : Int32) : Option RS := Option.bind (wrI cs1 113 10400 y1 (vp_nar .boolean y0)) fun cs_1 => rc169 cs_1 u1 u2 u3 u6 u7 (u8 + 1)
def m_differ_b237 (F : Nat) (rc4 : RS → Int32 → Int32 → Int32 → Option RS) (rc169 : RS → Int32 → Int32 → Int32 → Int32 → Int32 → Int32 → Option RS) (cs1 : RS) (u1 : Int32) (u2 : Int32) (u3 : Int32) (u6 : Int32) (u7 : Int32) (u8 : Int32) (u9 : Int32) (y0 : Int64) (y1 : Int32) : Option RS := Option.bind (wrL cs1 112 10400 y1 y0) fun cs_2 => if u6 = (-1) then (Option.bind (rdI (cs_2.2.2.1 106) 4800 (((cs_2.1 101) * u7) + u8)) fun v_4 => m_differ_b283 F rc4 rc169 cs_2 u1 u2 u3 u6 u7 u8 v_4 u9) else (Option.bind (rdI (cs_2.2.2.1 109) 4800 (((cs_2.1 101) * u6) + u8)) fun v_5 => m_differ_b283 F rc4 rc169 cs_2 u1 u2 u3 u6 u7 u8 v_5 u9)
def m_differ_L169 (F : Nat) (rc4 : RS → Int32 → Int32 → Int32 → Option RS) : Nat → RS → Int32 → Int32 → Int32 → Int32 → Int32 → Int32 → Option RS
  | 0, _, _, _, _, _, _, _ => none
  | lf_169 + 1, cs1, u1, u2, u3, u6, u7, u8 => if (cs1.1 101) ≤ u8 then (m_differ_b300 F rc4 (setF cs1 110 ((cs1.1 110) + 1)) u1 u2 u3) else (if u6 = (-1) then (Option.bind (rdL (cs1.2.2.2 105) 4800 (((cs1.1 101) * u7) + u8)) fun v_8 => m_differ_b237 F rc4 (m_differ_L169 F rc4 lf_169) cs1 u1 u2 u3 u6 u7 u8 (((cs1.1 101) * (cs1.1 110)) + u8) v_8 (((cs1.1 101) * (cs1.1 110)) + u8)) else (Option.bind (rdL (cs1.2.2.2 108) 4800 (((cs1.1 101) * u6) + u8)) fun v_9 => m_differ_b237 F rc4 (m_differ_L169 F rc4 lf_169) cs1 u1 u2 u3 u6 u7 u8 (((cs1.1 101) * (cs1.1 110)) + u8) v_9 (((cs1.1 101) * (cs1.1 110)) + u8)))
def m_differ_b155 (F : Nat) (rc4 : RS → Int32 → Int32 → Int32 → Option RS) (cs1 : RS) (u1 : Int32) (u2 : Int32) (u3 : Int32) (u5 : Int32) (u6 : Int32) (u7 : Int32) : Option RS := Option.bind (wrI cs1 111 1300 (cs1.1 110) u5) fun cs_10 => m_differ_L169 F rc4 F cs_10 u1 u2 u3 u6 u7 0
def m_differ_b146 (F : Nat) (rc4 : RS → Int32 → Int32 → Int32 → Option RS) (cs1 : RS) (u1 : Int32) (u2 : Int32) (u3 : Int32) (u5 : Int32) (u6 : Int32) (u7 : Int32) : Option RS := if 0 ≤ u5 then (m_differ_b300 F rc4 cs1 u1 u2 u3) else (if u1 = 0 then (m_differ_b155 F rc4 cs1 u1 u2 u3 u5 u6 u7) else (m_differ_b300 F rc4 cs1 u1 u2 u3))
def m_differ_b137 (F : Nat) (rc4 : RS → Int32 → Int32 → Int32 → Option RS) (cs1 : RS) (u1 : Int32) (u2 : Int32) (u3 : Int32) (u5 : Int32) (u6 : Int32) (u7 : Int32) : Option RS := if u5 ≤ 0 then (m_differ_b146 F rc4 cs1 u1 u2 u3 u5 u6 u7) else (if u1 = 0 then (m_differ_b146 F rc4 cs1 u1 u2 u3 u5 u6 u7) else (m_differ_b155 F rc4 cs1 u1 u2 u3 u5 u6 u7))
def m_differ_L116 (F : Nat) (rc4 : RS → Int32 → Int32 → Int32 → Option RS) : Nat → RS → Int32 → Int32 → Int32 → Int32 → Int32 → Int32 → Option RS
  | 0, _, _, _, _, _, _, _ => none
  | lf_116 + 1, cs1, u1, u2, u3, u5, u6, u7 => Option.bind (m_isLikeNext F cs1 0 u3) fun v_15 => if v_15 = 0 then (m_differ_b137 F rc4 cs1 u1 u2 (u3 + 1) u5 u6 u7) else ((m_differ_L116 F rc4 lf_116) cs1 u1 u2 (u3 + 1) (u5 + 1) u6 u7)
def m_differ_b108 (F : Nat) (rc4 : RS → Int32 → Int32 → Int32 → Option RS) (cs1 : RS) (u1 : Int32) (u2 : Int32) (u3 : Int32) (u4 : Int32) (u5 : Int32) (u6 : Int32) (u7 : Int32) : Option RS := if u4 < 0 then (m_differ_b137 F rc4 cs1 u1 u2 u3 u5 u6 u7) else (m_differ_L116 F rc4 F cs1 u1 u2 u3 (u5 + 1) u6 u7)
def m_differ_L87 (F : Nat) (rc4 : RS → Int32 → Int32 → Int32 → Option RS) : Nat → RS → Int32 → Int32 → Int32 → Int32 → Int32 → Int32 → Int32 → Option RS
  | 0, _, _, _, _, _, _, _, _ => none
  | lf_87 + 1, cs1, u1, u2, u3, u4, u5, u6, u7 => Option.bind (m_isLikeNext F cs1 1 u2) fun v_18 => if v_18 = 0 then (m_differ_b108 F rc4 cs1 u1 (u2 + 1) u3 u4 u5 u6 u7) else ((m_differ_L87 F rc4 lf_87) cs1 u1 (u2 + 1) u3 u4 (u5 + (-1)) u6 u7)
def m_differ_b77 (F : Nat) (rc4 : RS → Int32 → Int32 → Int32 → Option RS) (cs1 : RS) (u1 : Int32) (u2 : Int32) (u3 : Int32) (u4 : Int32) (u5 : Int32) (u6 : Int32) (y0 : Int32) : Option RS := if 0 < u4 then (m_differ_b108 F rc4 cs1 u1 u2 u3 u4 u5 u6 y0) else (m_differ_L87 F rc4 F cs1 u1 u2 u3 u4 (u5 + (-1)) u6 y0)
def m_differ_b65 (F : Nat) (rc4 : RS → Int32 → Int32 → Int32 → Option RS) (cs1 : RS) (u1 : Int32) (u2 : Int32) (u3 : Int32) (u4 : Int32) (u5 : Int32) (y0 : Int32) : Option RS := if u4 < 0 then (m_differ_b77 F rc4 cs1 u1 u2 u3 u4 u5 y0 (-1)) else (m_differ_b77 F rc4 cs1 u1 u2 u3 u4 u5 y0 u3)
def m_differ_b50 (F : Nat) (rc4 : RS → Int32 → Int32 → Int32 → Option RS) (cs1 : RS) (u1 : Int32) (u2 : Int32) (u3 : Int32) (y0 : Int32) : Option RS := if 0 < y0 then (m_differ_b65 F rc4 cs1 u1 u2 u3 y0 0 (-1)) else (m_differ_b65 F rc4 cs1 u1 u2 u3 y0 0 u2)
def m_differ_b20 (F : Nat) (rc4 : RS → Int32 → Int32 → Int32 → Option RS) (cs1 : RS) (u1 : Int32) (u2 : Int32) (u3 : Int32) : Option RS := if u2 = (cs1.1 107) then (m_differ_b50 F rc4 cs1 u1 u2 u3 1) else (if u3 = (cs1.1 104) then (m_differ_b50 F rc4 cs1 u1 u2 u3 (-1)) else (Option.bind (m_compareAcross F cs1 u2 u3) fun v_25 => m_differ_b50 F rc4 cs1 u1 u2 u3 v_25))
def m_differ_L4 (F : Nat) : Nat → RS → Int32 → Int32 → Int32 → Option RS
  | 0, _, _, _, _ => none
  | lf_4 + 1, cs1, u1, u2, u3 => if u2 < (cs1.1 107) then (m_differ_b20 F (m_differ_L4 F lf_4) cs1 u1 u2 u3) else (if (cs1.1 104) ≤ u3 then (some cs1) else (m_differ_b20 F (m_differ_L4 F lf_4) cs1 u1 u2 u3))
def m_differ (F : Nat) (cs : RS) (x1 : Int32) : Option RS := m_differ_L4 F F cs x1 0 0
set_option maxHeartbeats 4000000 in
set_option maxRecDepth 100000 in
theorem s_differ (l : Launch) (dC : Nat → ClassId) (dI : Nat → Nat → Nat) (cB cI cJ cZ : ClassId) (h0 : Nat) (a : Nat → Nat) (K V : Nat → Nat) (fz : Value) (F : Nat) (cs : RS) (x1 : Int32) (cs9 : RS) (hf : m_differ F cs x1 = some cs9) : okV l dC dI cB cI cJ cZ h0 a K V fz yX12_differ (wsOf yX12_differ cX12_differ 10 none) (2) [.ref h0, .int x1] cs cs9 := by
  intro sz
  refine Met.ofW (cc := cX12_differ) (maxL := 10) (ret := none) (by decide) rfl ?_
  intro p e s m args below meth c s₁ B hml hv
  obtain ⟨rfl, hsz, hP, hK, hD0, hZ⟩ := hv
  have hx := B.exec
  have hb := B.bytes
  have hr := B.returns
  have hts := atoms_spec (ws := (wsOf yX12_differ cX12_differ 10 none)) B.pre
  have hown : s.vm.findClass RX12 = some m.cls := findClass_of_methodNamed B.named
  have hlocks := B.notSynchronized
  subst hsz
  have hD := hD0.self (sz := s.heap.size)
  generalize hAe : va_A (mW cB cI cJ cZ h0 a cs) s.heap.size = A at hD hZ ⊢
  have hA : ∀ q : Nat, s.heap.size ≤ q → A q := fun q h => by rw [← hAe]; exact Or.inr h
  have hS : va_S A s.heap s.heap [] := va_S.rf
  have hl := lv_entry ([.ref h0, .int x1]) (n := 10) (Nat.le_of_ble_eq_true rfl)
  rw [lg_entry_eq]
  generalize (lg_sl ([.ref h0, .int x1]) ++ List.replicate (10 - (lg_sl ([.ref h0, .int x1])).length) Slot.unset).toArray = ls at hl ⊢
  have hl : lv_has ls 10 [(0, .ref h0), (1, .int x1)] := hl
  have L_4 : ∀ (lf_4 : Nat), ∀ (cs1 : RS) (u1 : Int32) (u2 : Int32) (u3 : Int32), m_differ_L4 F lf_4 cs1 u1 u2 u3 = some cs9 → ∀ (H : Heap) (locs : List Loc) (ls : Array Slot), va_P (dC, dI) vwCl (mW cB cI cJ cZ h0 a cs1) H → va_D A (mW cB cI cJ cZ h0 a cs1) → va_S A s.heap H locs → lv_has ls 10 [(0, .ref h0), (1, .int u1), (2, .int u2), (3, .int u3)] → W p l e (headSpec (wsOf yX12_differ cX12_differ 10 none) ({ frames := 2, cells := 0, slots := 0, locals := 60 * (2) } : Room)).room s m ([.ref h0, .int x1] : List Value).toArray below meth c H locs 0 0 (MQ below (va_Qv (fun (_ : Unit) => True) (fun _ t_ => va_P (dC, dI) vwCl (mW cB cI cJ cZ h0 a cs9) t_.heap ∧ va_D A (mW cB cI cJ cZ h0 a cs9)) A) ([.ref h0, .int x1] : List Value).toArray s 0 0 A) (F0 m 4 ls []) := by
    intro lf_4
    induction lf_4 with
    | zero => intro cs1 u1 u2 u3 h; cases (show (none : Option RS) = _ from h)
    | succ lf_4 ih_4 =>
      have B_300 : ∀ (cs1 : RS) (u1 : Int32) (u2 : Int32) (u3 : Int32), m_differ_b300 F (m_differ_L4 F lf_4) cs1 u1 u2 u3 = some cs9 → ∀ (H : Heap) (locs : List Loc) (ls : Array Slot), va_P (dC, dI) vwCl (mW cB cI cJ cZ h0 a cs1) H → va_D A (mW cB cI cJ cZ h0 a cs1) → va_S A s.heap H locs → lv_has ls 10 [(0, .ref h0), (1, .int u1), (2, .int u2), (3, .int u3)] → W p l e (headSpec (wsOf yX12_differ cX12_differ 10 none) ({ frames := 2, cells := 0, slots := 0, locals := 60 * (2) } : Room)).room s m ([.ref h0, .int x1] : List Value).toArray below meth c H locs 0 0 (MQ below (va_Qv (fun (_ : Unit) => True) (fun _ t_ => va_P (dC, dI) vwCl (mW cB cI cJ cZ h0 a cs9) t_.heap ∧ va_D A (mW cB cI cJ cZ h0 a cs9)) A) ([.ref h0, .int x1] : List Value).toArray s 0 0 A) (F0 m 300 ls []) := by
        intro cs1 u1 u2 u3 h H locs ls hP hD hS hl
        unfold m_differ_b300 at h
        refine lv_goto (tgt := 4) hx hb dX12_differ_300 (by decide) ?_
        exact ih_4 cs1 u1 u2 u3 h _ _ _ hP hD hS (lv_sub hl [0, 1, 2, 3] rfl)
      have L_169 : ∀ (lf_169 : Nat), ∀ (cs1 : RS) (u1 : Int32) (u2 : Int32) (u3 : Int32) (u6 : Int32) (u7 : Int32) (u8 : Int32), m_differ_L169 F (m_differ_L4 F lf_4) lf_169 cs1 u1 u2 u3 u6 u7 u8 = some cs9 → ∀ (H : Heap) (locs : List Loc) (ls : Array Slot), va_P (dC, dI) vwCl (mW cB cI cJ cZ h0 a cs1) H → va_D A (mW cB cI cJ cZ h0 a cs1) → va_S A s.heap H locs → lv_has ls 10 [(0, .ref h0), (1, .int u1), (2, .int u2), (3, .int u3), (6, .int u6), (7, .int u7), (8, .int u8)] → W p l e (headSpec (wsOf yX12_differ cX12_differ 10 none) ({ frames := 2, cells := 0, slots := 0, locals := 60 * (2) } : Room)).room s m ([.ref h0, .int x1] : List Value).toArray below meth c H locs 0 0 (MQ below (va_Qv (fun (_ : Unit) => True) (fun _ t_ => va_P (dC, dI) vwCl (mW cB cI cJ cZ h0 a cs9) t_.heap ∧ va_D A (mW cB cI cJ cZ h0 a cs9)) A) ([.ref h0, .int x1] : List Value).toArray s 0 0 A) (F0 m 169 ls []) := by
        intro lf_169
        induction lf_169 with
        | zero => intro cs1 u1 u2 u3 u6 u7 u8 h; cases (show (none : Option RS) = _ from h)
        | succ lf_169 ih_169 =>
          have B_283 : ∀ (cs1 : RS) (u1 : Int32) (u2 : Int32) (u3 : Int32) (u6 : Int32) (u7 : Int32) (u8 : Int32) (y0 : Int32) (y1 : Int32), m_differ_b283 F (m_differ_L4 F lf_4) (m_differ_L169 F (m_differ_L4 F lf_4) lf_169) cs1 u1 u2 u3 u6 u7 u8 y0 y1 = some cs9 → ∀ (H : Heap) (locs : List Loc) (ls : Array Slot), va_P (dC, dI) vwCl (mW cB cI cJ cZ h0 a cs1) H → va_D A (mW cB cI cJ cZ h0 a cs1) → va_S A s.heap H locs → lv_has ls 10 [(0, .ref h0), (1, .int u1), (2, .int u2), (3, .int u3), (6, .int u6), (7, .int u7), (8, .int u8)] → W p l e (headSpec (wsOf yX12_differ cX12_differ 10 none) ({ frames := 2, cells := 0, slots := 0, locals := 60 * (2) } : Room)).room s m ([.ref h0, .int x1] : List Value).toArray below meth c H locs 0 0 (MQ below (va_Qv (fun (_ : Unit) => True) (fun _ t_ => va_P (dC, dI) vwCl (mW cB cI cJ cZ h0 a cs9) t_.heap ∧ va_D A (mW cB cI cJ cZ h0 a cs9)) A) ([.ref h0, .int x1] : List Value).toArray s 0 0 A) (F0 m 283 ls [.int y0, .int y1, .ref (a 113)]) := by
            intro cs1 u1 u2 u3 u6 u7 u8 y0 y1 h H locs ls hP hD hS hl
            unfold m_differ_b283 at h
            obtain ⟨cs_1, hv_1, h⟩ := ob h
            refine ap_113 hx hb hK hP hD hS hv_1 dX12_differ_283 (fun H locs hP hD hS => ?_)
            refine lv_iinc (v := u8 + 1) (lv' := [(8, .int (u8 + 1)), (0, .ref h0), (1, .int u1), (2, .int u2), (3, .int u3), (6, .int u6), (7, .int u7)]) hx hb dX12_differ_284 hl (k := 6) rfl rfl (by decide) rfl (fun ls hl => ?_)
            refine lv_goto (tgt := 169) hx hb dX12_differ_287 (by decide) ?_
            exact ih_169 cs_1 u1 u2 u3 u6 u7 (u8 + 1) h _ _ _ hP hD hS (lv_sub hl [1, 2, 3, 4, 5, 6, 0] rfl)
          have B_237 : ∀ (cs1 : RS) (u1 : Int32) (u2 : Int32) (u3 : Int32) (u6 : Int32) (u7 : Int32) (u8 : Int32) (u9 : Int32) (y0 : Int64) (y1 : Int32), m_differ_b237 F (m_differ_L4 F lf_4) (m_differ_L169 F (m_differ_L4 F lf_4) lf_169) cs1 u1 u2 u3 u6 u7 u8 u9 y0 y1 = some cs9 → ∀ (H : Heap) (locs : List Loc) (ls : Array Slot), va_P (dC, dI) vwCl (mW cB cI cJ cZ h0 a cs1) H → va_D A (mW cB cI cJ cZ h0 a cs1) → va_S A s.heap H locs → lv_has ls 10 [(0, .ref h0), (1, .int u1), (2, .int u2), (3, .int u3), (6, .int u6), (7, .int u7), (8, .int u8), (9, .int u9)] → W p l e (headSpec (wsOf yX12_differ cX12_differ 10 none) ({ frames := 2, cells := 0, slots := 0, locals := 60 * (2) } : Room)).room s m ([.ref h0, .int x1] : List Value).toArray below meth c H locs 0 0 (MQ below (va_Qv (fun (_ : Unit) => True) (fun _ t_ => va_P (dC, dI) vwCl (mW cB cI cJ cZ h0 a cs9) t_.heap ∧ va_D A (mW cB cI cJ cZ h0 a cs9)) A) ([.ref h0, .int x1] : List Value).toArray s 0 0 A) (F0 m 237 ls [.long y0, .int y1, .ref (a 112)]) := by
            intro cs1 u1 u2 u3 u6 u7 u8 u9 y0 y1 h H locs ls hP hD hS hl
            unfold m_differ_b237 at h
            obtain ⟨cs_2, hv_2, h⟩ := ob h
            refine ap_112 hx hb hK hP hD hS hv_2 dX12_differ_237 (fun H locs hP hD hS => ?_)
            refine lv_aload_n hx hb dX12_differ_238 rfl (lv_at hl 0 rfl) ?_
            refine fg_113 hx hb hts hown hK hP dX12_differ_239 ?_
            refine lv_iload hx hb dX12_differ_242 (lv_at hl 7 rfl) ?_
            refine lv_iload hx hb dX12_differ_244 (lv_at hl 4 rfl) ?_
            refine lv_iconst (v := (-1)) hx hb dX12_differ_246 (by decide) ?_
            refine lv_icmp_eq (tgt := 268) hx hb dX12_differ_247 (by decide) (fun c_3 => ?_) (fun c_3 => ?_)
            · skip
              replace h := (if_pos c_3).symm.trans h
              refine lv_aload_n hx hb dX12_differ_268 rfl (lv_at hl 0 rfl) ?_
              refine fg_106 hx hb hts hown hK hP dX12_differ_269 ?_
              refine lv_aload_n hx hb dX12_differ_272 rfl (lv_at hl 0 rfl) ?_
              refine fg_101 hx hb hts hown hK hP dX12_differ_273 ?_
              refine lv_iload hx hb dX12_differ_276 (lv_at hl 5 rfl) ?_
              refine lv_imul hx hb dX12_differ_278 ?_
              refine lv_iload hx hb dX12_differ_279 (lv_at hl 6 rfl) ?_
              refine lv_iadd hx hb dX12_differ_281 ?_
              obtain ⟨v_4, hv_4, h⟩ := ob h
              refine ag_106 hx hb hK hP hv_4 dX12_differ_282 ?_
              exact B_283 cs_2 u1 u2 u3 u6 u7 u8 v_4 u9 h _ _ _ hP hD hS (lv_sub hl [0, 1, 2, 3, 4, 5, 6] rfl)
            · skip
              replace h := (if_neg c_3).symm.trans h
              refine lv_aload_n hx hb dX12_differ_250 rfl (lv_at hl 0 rfl) ?_
              refine fg_109 hx hb hts hown hK hP dX12_differ_251 ?_
              refine lv_aload_n hx hb dX12_differ_254 rfl (lv_at hl 0 rfl) ?_
              refine fg_101 hx hb hts hown hK hP dX12_differ_255 ?_
              refine lv_iload hx hb dX12_differ_258 (lv_at hl 4 rfl) ?_
              refine lv_imul hx hb dX12_differ_260 ?_
              refine lv_iload hx hb dX12_differ_261 (lv_at hl 6 rfl) ?_
              refine lv_iadd hx hb dX12_differ_263 ?_
              obtain ⟨v_5, hv_5, h⟩ := ob h
              refine ag_109 hx hb hK hP hv_5 dX12_differ_264 ?_
              refine lv_goto (tgt := 283) hx hb dX12_differ_265 (by decide) ?_
              exact B_283 cs_2 u1 u2 u3 u6 u7 u8 v_5 u9 h _ _ _ hP hD hS (lv_sub hl [0, 1, 2, 3, 4, 5, 6] rfl)
          intro cs1 u1 u2 u3 u6 u7 u8 h H locs ls hP hD hS hl
          rw [m_differ_L169] at h
          refine lv_iload hx hb dX12_differ_169 (lv_at hl 6 rfl) ?_
          refine lv_aload_n hx hb dX12_differ_171 rfl (lv_at hl 0 rfl) ?_
          refine fg_101 hx hb hts hown hK hP dX12_differ_172 ?_
          refine lv_icmp_ge (tgt := 290) hx hb dX12_differ_175 (by decide) (fun c_6 => ?_) (fun c_6 => ?_)
          · skip
            replace h := (if_pos c_6).symm.trans h
            refine lv_aload_n hx hb dX12_differ_290 rfl (lv_at hl 0 rfl) ?_
            refine lv_dup hx hb dX12_differ_291 rfl ?_
            refine fg_110 hx hb hts hown hK hP dX12_differ_292 ?_
            refine lv_iconst (v := 1) hx hb dX12_differ_295 (by decide) ?_
            refine lv_iadd hx hb dX12_differ_296 ?_
            refine fp_110 hx hb hts hown hK hP hD hS dX12_differ_297 (fun H locs hP hD hS => ?_)
            exact B_300 (setF cs1 110 ((cs1.1 110) + 1)) u1 u2 u3 h _ _ _ hP hD hS (lv_sub hl [0, 1, 2, 3] rfl)
          · skip
            replace h := (if_neg c_6).symm.trans h
            refine lv_aload_n hx hb dX12_differ_178 rfl (lv_at hl 0 rfl) ?_
            refine fg_101 hx hb hts hown hK hP dX12_differ_179 ?_
            refine lv_aload_n hx hb dX12_differ_182 rfl (lv_at hl 0 rfl) ?_
            refine fg_110 hx hb hts hown hK hP dX12_differ_183 ?_
            refine lv_imul hx hb dX12_differ_186 ?_
            refine lv_iload hx hb dX12_differ_187 (lv_at hl 6 rfl) ?_
            refine lv_iadd hx hb dX12_differ_189 ?_
            refine lv_istore (lv' := [(9, .int (((cs1.1 101) * (cs1.1 110)) + u8)), (0, .ref h0), (1, .int u1), (2, .int u2), (3, .int u3), (6, .int u6), (7, .int u7), (8, .int u8)]) hx hb dX12_differ_190 hl (by decide) rfl (fun ls hl => ?_)
            refine lv_aload_n hx hb dX12_differ_192 rfl (lv_at hl 1 rfl) ?_
            refine fg_112 hx hb hts hown hK hP dX12_differ_193 ?_
            refine lv_iload hx hb dX12_differ_196 (lv_at hl 0 rfl) ?_
            refine lv_iload hx hb dX12_differ_198 (lv_at hl 5 rfl) ?_
            refine lv_iconst (v := (-1)) hx hb dX12_differ_200 (by decide) ?_
            refine lv_icmp_eq (tgt := 222) hx hb dX12_differ_201 (by decide) (fun c_7 => ?_) (fun c_7 => ?_)
            · skip
              replace h := (if_pos c_7).symm.trans h
              refine lv_aload_n hx hb dX12_differ_222 rfl (lv_at hl 1 rfl) ?_
              refine fg_105 hx hb hts hown hK hP dX12_differ_223 ?_
              refine lv_aload_n hx hb dX12_differ_226 rfl (lv_at hl 1 rfl) ?_
              refine fg_101 hx hb hts hown hK hP dX12_differ_227 ?_
              refine lv_iload hx hb dX12_differ_230 (lv_at hl 6 rfl) ?_
              refine lv_imul hx hb dX12_differ_232 ?_
              refine lv_iload hx hb dX12_differ_233 (lv_at hl 7 rfl) ?_
              refine lv_iadd hx hb dX12_differ_235 ?_
              obtain ⟨v_8, hv_8, h⟩ := ob h
              refine ag_105 hx hb hK hP hv_8 dX12_differ_236 ?_
              exact B_237 cs1 u1 u2 u3 u6 u7 u8 (((cs1.1 101) * (cs1.1 110)) + u8) v_8 (((cs1.1 101) * (cs1.1 110)) + u8) h _ _ _ hP hD hS (lv_sub hl [1, 2, 3, 4, 5, 6, 7, 0] rfl)
            · skip
              replace h := (if_neg c_7).symm.trans h
              refine lv_aload_n hx hb dX12_differ_204 rfl (lv_at hl 1 rfl) ?_
              refine fg_108 hx hb hts hown hK hP dX12_differ_205 ?_
              refine lv_aload_n hx hb dX12_differ_208 rfl (lv_at hl 1 rfl) ?_
              refine fg_101 hx hb hts hown hK hP dX12_differ_209 ?_
              refine lv_iload hx hb dX12_differ_212 (lv_at hl 5 rfl) ?_
              refine lv_imul hx hb dX12_differ_214 ?_
              refine lv_iload hx hb dX12_differ_215 (lv_at hl 7 rfl) ?_
              refine lv_iadd hx hb dX12_differ_217 ?_
              obtain ⟨v_9, hv_9, h⟩ := ob h
              refine ag_108 hx hb hK hP hv_9 dX12_differ_218 ?_
              refine lv_goto (tgt := 237) hx hb dX12_differ_219 (by decide) ?_
              exact B_237 cs1 u1 u2 u3 u6 u7 u8 (((cs1.1 101) * (cs1.1 110)) + u8) v_9 (((cs1.1 101) * (cs1.1 110)) + u8) h _ _ _ hP hD hS (lv_sub hl [1, 2, 3, 4, 5, 6, 7, 0] rfl)
      have B_155 : ∀ (cs1 : RS) (u1 : Int32) (u2 : Int32) (u3 : Int32) (u5 : Int32) (u6 : Int32) (u7 : Int32), m_differ_b155 F (m_differ_L4 F lf_4) cs1 u1 u2 u3 u5 u6 u7 = some cs9 → ∀ (H : Heap) (locs : List Loc) (ls : Array Slot), va_P (dC, dI) vwCl (mW cB cI cJ cZ h0 a cs1) H → va_D A (mW cB cI cJ cZ h0 a cs1) → va_S A s.heap H locs → lv_has ls 10 [(0, .ref h0), (1, .int u1), (2, .int u2), (3, .int u3), (5, .int u5), (6, .int u6), (7, .int u7)] → W p l e (headSpec (wsOf yX12_differ cX12_differ 10 none) ({ frames := 2, cells := 0, slots := 0, locals := 60 * (2) } : Room)).room s m ([.ref h0, .int x1] : List Value).toArray below meth c H locs 0 0 (MQ below (va_Qv (fun (_ : Unit) => True) (fun _ t_ => va_P (dC, dI) vwCl (mW cB cI cJ cZ h0 a cs9) t_.heap ∧ va_D A (mW cB cI cJ cZ h0 a cs9)) A) ([.ref h0, .int x1] : List Value).toArray s 0 0 A) (F0 m 155 ls []) := by
        intro cs1 u1 u2 u3 u5 u6 u7 h H locs ls hP hD hS hl
        unfold m_differ_b155 at h
        refine lv_aload_n hx hb dX12_differ_155 rfl (lv_at hl 0 rfl) ?_
        refine fg_111 hx hb hts hown hK hP dX12_differ_156 ?_
        refine lv_aload_n hx hb dX12_differ_159 rfl (lv_at hl 0 rfl) ?_
        refine fg_110 hx hb hts hown hK hP dX12_differ_160 ?_
        refine lv_iload hx hb dX12_differ_163 (lv_at hl 4 rfl) ?_
        obtain ⟨cs_10, hv_10, h⟩ := ob h
        refine ap_111 hx hb hK hP hD hS hv_10 dX12_differ_165 (fun H locs hP hD hS => ?_)
        refine lv_iconst (v := 0) hx hb dX12_differ_166 (by decide) ?_
        refine lv_istore (lv' := [(8, .int 0), (0, .ref h0), (1, .int u1), (2, .int u2), (3, .int u3), (5, .int u5), (6, .int u6), (7, .int u7)]) hx hb dX12_differ_167 hl (by decide) rfl (fun ls hl => ?_)
        exact L_169 F cs_10 u1 u2 u3 u6 u7 0 h _ _ _ hP hD hS (lv_sub hl [1, 2, 3, 4, 6, 7, 0] rfl)
      have B_146 : ∀ (cs1 : RS) (u1 : Int32) (u2 : Int32) (u3 : Int32) (u5 : Int32) (u6 : Int32) (u7 : Int32), m_differ_b146 F (m_differ_L4 F lf_4) cs1 u1 u2 u3 u5 u6 u7 = some cs9 → ∀ (H : Heap) (locs : List Loc) (ls : Array Slot), va_P (dC, dI) vwCl (mW cB cI cJ cZ h0 a cs1) H → va_D A (mW cB cI cJ cZ h0 a cs1) → va_S A s.heap H locs → lv_has ls 10 [(0, .ref h0), (1, .int u1), (2, .int u2), (3, .int u3), (5, .int u5), (6, .int u6), (7, .int u7)] → W p l e (headSpec (wsOf yX12_differ cX12_differ 10 none) ({ frames := 2, cells := 0, slots := 0, locals := 60 * (2) } : Room)).room s m ([.ref h0, .int x1] : List Value).toArray below meth c H locs 0 0 (MQ below (va_Qv (fun (_ : Unit) => True) (fun _ t_ => va_P (dC, dI) vwCl (mW cB cI cJ cZ h0 a cs9) t_.heap ∧ va_D A (mW cB cI cJ cZ h0 a cs9)) A) ([.ref h0, .int x1] : List Value).toArray s 0 0 A) (F0 m 146 ls []) := by
        intro cs1 u1 u2 u3 u5 u6 u7 h H locs ls hP hD hS hl
        unfold m_differ_b146 at h
        refine lv_iload hx hb dX12_differ_146 (lv_at hl 4 rfl) ?_
        refine lv_if_ge (tgt := 300) hx hb dX12_differ_148 (by decide) (fun c_11 => ?_) (fun c_11 => ?_)
        · skip
          replace h := (if_pos c_11).symm.trans h
          exact B_300 cs1 u1 u2 u3 h _ _ _ hP hD hS (lv_sub hl [0, 1, 2, 3] rfl)
        · skip
          replace h := (if_neg c_11).symm.trans h
          refine lv_iload_n hx hb dX12_differ_151 rfl (lv_at hl 1 rfl) ?_
          refine lv_if_ne (tgt := 300) hx hb dX12_differ_152 (by decide) (fun c_12 => ?_) (fun c_12 => ?_)
          · skip
            replace h := (if_neg c_12).symm.trans h
            exact B_300 cs1 u1 u2 u3 h _ _ _ hP hD hS (lv_sub hl [0, 1, 2, 3] rfl)
          · skip
            replace h := (if_pos c_12).symm.trans h
            exact B_155 cs1 u1 u2 u3 u5 u6 u7 h _ _ _ hP hD hS (lv_sub hl [0, 1, 2, 3, 4, 5, 6] rfl)
      have B_137 : ∀ (cs1 : RS) (u1 : Int32) (u2 : Int32) (u3 : Int32) (u5 : Int32) (u6 : Int32) (u7 : Int32), m_differ_b137 F (m_differ_L4 F lf_4) cs1 u1 u2 u3 u5 u6 u7 = some cs9 → ∀ (H : Heap) (locs : List Loc) (ls : Array Slot), va_P (dC, dI) vwCl (mW cB cI cJ cZ h0 a cs1) H → va_D A (mW cB cI cJ cZ h0 a cs1) → va_S A s.heap H locs → lv_has ls 10 [(0, .ref h0), (1, .int u1), (2, .int u2), (3, .int u3), (5, .int u5), (6, .int u6), (7, .int u7)] → W p l e (headSpec (wsOf yX12_differ cX12_differ 10 none) ({ frames := 2, cells := 0, slots := 0, locals := 60 * (2) } : Room)).room s m ([.ref h0, .int x1] : List Value).toArray below meth c H locs 0 0 (MQ below (va_Qv (fun (_ : Unit) => True) (fun _ t_ => va_P (dC, dI) vwCl (mW cB cI cJ cZ h0 a cs9) t_.heap ∧ va_D A (mW cB cI cJ cZ h0 a cs9)) A) ([.ref h0, .int x1] : List Value).toArray s 0 0 A) (F0 m 137 ls []) := by
        intro cs1 u1 u2 u3 u5 u6 u7 h H locs ls hP hD hS hl
        unfold m_differ_b137 at h
        refine lv_iload hx hb dX12_differ_137 (lv_at hl 4 rfl) ?_
        refine lv_if_le (tgt := 146) hx hb dX12_differ_139 (by decide) (fun c_13 => ?_) (fun c_13 => ?_)
        · skip
          replace h := (if_pos c_13).symm.trans h
          exact B_146 cs1 u1 u2 u3 u5 u6 u7 h _ _ _ hP hD hS (lv_sub hl [0, 1, 2, 3, 4, 5, 6] rfl)
        · skip
          replace h := (if_neg c_13).symm.trans h
          refine lv_iload_n hx hb dX12_differ_142 rfl (lv_at hl 1 rfl) ?_
          refine lv_if_ne (tgt := 155) hx hb dX12_differ_143 (by decide) (fun c_14 => ?_) (fun c_14 => ?_)
          · skip
            replace h := (if_neg c_14).symm.trans h
            exact B_155 cs1 u1 u2 u3 u5 u6 u7 h _ _ _ hP hD hS (lv_sub hl [0, 1, 2, 3, 4, 5, 6] rfl)
          · skip
            replace h := (if_pos c_14).symm.trans h
            exact B_146 cs1 u1 u2 u3 u5 u6 u7 h _ _ _ hP hD hS (lv_sub hl [0, 1, 2, 3, 4, 5, 6] rfl)
      have L_116 : ∀ (lf_116 : Nat), ∀ (cs1 : RS) (u1 : Int32) (u2 : Int32) (u3 : Int32) (u5 : Int32) (u6 : Int32) (u7 : Int32), m_differ_L116 F (m_differ_L4 F lf_4) lf_116 cs1 u1 u2 u3 u5 u6 u7 = some cs9 → ∀ (H : Heap) (locs : List Loc) (ls : Array Slot), va_P (dC, dI) vwCl (mW cB cI cJ cZ h0 a cs1) H → va_D A (mW cB cI cJ cZ h0 a cs1) → va_S A s.heap H locs → lv_has ls 10 [(0, .ref h0), (1, .int u1), (2, .int u2), (3, .int u3), (5, .int u5), (6, .int u6), (7, .int u7)] → W p l e (headSpec (wsOf yX12_differ cX12_differ 10 none) ({ frames := 2, cells := 0, slots := 0, locals := 60 * (2) } : Room)).room s m ([.ref h0, .int x1] : List Value).toArray below meth c H locs 0 0 (MQ below (va_Qv (fun (_ : Unit) => True) (fun _ t_ => va_P (dC, dI) vwCl (mW cB cI cJ cZ h0 a cs9) t_.heap ∧ va_D A (mW cB cI cJ cZ h0 a cs9)) A) ([.ref h0, .int x1] : List Value).toArray s 0 0 A) (F0 m 116 ls []) := by
        intro lf_116
        induction lf_116 with
        | zero => intro cs1 u1 u2 u3 u5 u6 u7 h; cases (show (none : Option RS) = _ from h)
        | succ lf_116 ih_116 =>
          intro cs1 u1 u2 u3 u5 u6 u7 h H locs ls hP hD hS hl
          rw [m_differ_L116] at h
          refine lv_aload_n hx hb dX12_differ_116 rfl (lv_at hl 0 rfl) ?_
          refine lv_iconst (v := 0) hx hb dX12_differ_117 (by decide) ?_
          refine lv_iload_n hx hb dX12_differ_118 rfl (lv_at hl 3 rfl) ?_
          obtain ⟨v_15, hv_15, h⟩ := ob h
          refine calI (As := [.int 0, .int u3]) hx hb hml hts hown hK hP hD hS hA hZ (s_isLikeNext l dC dI cB cI cJ cZ h0 a K V fz F cs1 0 u3 v_15 hv_15) (cw_isLikeNext hts (fr := 1) (Nat.le_of_ble_eq_true rfl) (Nat.le_of_ble_eq_true rfl)) rfl hl.1 (Nat.le_of_ble_eq_true rfl) ⟨Nat.zero_le _, Nat.zero_le _⟩ dX12_differ_119 (fun H locs hP hD hS => ?_)
          refine lv_if_eq (tgt := 134) hx hb dX12_differ_122 (by decide) (fun c_16 => ?_) (fun c_16 => ?_)
          · skip
            replace h := (if_pos c_16).symm.trans h
            refine lv_iinc (v := u3 + 1) (lv' := [(3, .int (u3 + 1)), (0, .ref h0), (1, .int u1), (2, .int u2), (5, .int u5), (6, .int u6), (7, .int u7)]) hx hb dX12_differ_134 hl (k := 3) rfl rfl (by decide) rfl (fun ls hl => ?_)
            exact B_137 cs1 u1 u2 (u3 + 1) u5 u6 u7 h _ _ _ hP hD hS (lv_sub hl [1, 2, 3, 0, 4, 5, 6] rfl)
          · skip
            replace h := (if_neg c_16).symm.trans h
            refine lv_iinc (v := u3 + 1) (lv' := [(3, .int (u3 + 1)), (0, .ref h0), (1, .int u1), (2, .int u2), (5, .int u5), (6, .int u6), (7, .int u7)]) hx hb dX12_differ_125 hl (k := 3) rfl rfl (by decide) rfl (fun ls hl => ?_)
            refine lv_iinc (v := u5 + 1) (lv' := [(5, .int (u5 + 1)), (3, .int (u3 + 1)), (0, .ref h0), (1, .int u1), (2, .int u2), (6, .int u6), (7, .int u7)]) hx hb dX12_differ_128 hl (k := 4) rfl rfl (by decide) rfl (fun ls hl => ?_)
            refine lv_goto (tgt := 116) hx hb dX12_differ_131 (by decide) ?_
            exact ih_116 cs1 u1 u2 (u3 + 1) (u5 + 1) u6 u7 h _ _ _ hP hD hS (lv_sub hl [2, 3, 4, 1, 0, 5, 6] rfl)
      have B_108 : ∀ (cs1 : RS) (u1 : Int32) (u2 : Int32) (u3 : Int32) (u4 : Int32) (u5 : Int32) (u6 : Int32) (u7 : Int32), m_differ_b108 F (m_differ_L4 F lf_4) cs1 u1 u2 u3 u4 u5 u6 u7 = some cs9 → ∀ (H : Heap) (locs : List Loc) (ls : Array Slot), va_P (dC, dI) vwCl (mW cB cI cJ cZ h0 a cs1) H → va_D A (mW cB cI cJ cZ h0 a cs1) → va_S A s.heap H locs → lv_has ls 10 [(0, .ref h0), (1, .int u1), (2, .int u2), (3, .int u3), (4, .int u4), (5, .int u5), (6, .int u6), (7, .int u7)] → W p l e (headSpec (wsOf yX12_differ cX12_differ 10 none) ({ frames := 2, cells := 0, slots := 0, locals := 60 * (2) } : Room)).room s m ([.ref h0, .int x1] : List Value).toArray below meth c H locs 0 0 (MQ below (va_Qv (fun (_ : Unit) => True) (fun _ t_ => va_P (dC, dI) vwCl (mW cB cI cJ cZ h0 a cs9) t_.heap ∧ va_D A (mW cB cI cJ cZ h0 a cs9)) A) ([.ref h0, .int x1] : List Value).toArray s 0 0 A) (F0 m 108 ls []) := by
        intro cs1 u1 u2 u3 u4 u5 u6 u7 h H locs ls hP hD hS hl
        unfold m_differ_b108 at h
        refine lv_iload hx hb dX12_differ_108 (lv_at hl 4 rfl) ?_
        refine lv_if_lt (tgt := 137) hx hb dX12_differ_110 (by decide) (fun c_17 => ?_) (fun c_17 => ?_)
        · skip
          replace h := (if_pos c_17).symm.trans h
          exact B_137 cs1 u1 u2 u3 u5 u6 u7 h _ _ _ hP hD hS (lv_sub hl [0, 1, 2, 3, 5, 6, 7] rfl)
        · skip
          replace h := (if_neg c_17).symm.trans h
          refine lv_iinc (v := u5 + 1) (lv' := [(5, .int (u5 + 1)), (0, .ref h0), (1, .int u1), (2, .int u2), (3, .int u3), (4, .int u4), (6, .int u6), (7, .int u7)]) hx hb dX12_differ_113 hl (k := 5) rfl rfl (by decide) rfl (fun ls hl => ?_)
          exact L_116 F cs1 u1 u2 u3 (u5 + 1) u6 u7 h _ _ _ hP hD hS (lv_sub hl [1, 2, 3, 4, 0, 6, 7] rfl)
      have L_87 : ∀ (lf_87 : Nat), ∀ (cs1 : RS) (u1 : Int32) (u2 : Int32) (u3 : Int32) (u4 : Int32) (u5 : Int32) (u6 : Int32) (u7 : Int32), m_differ_L87 F (m_differ_L4 F lf_4) lf_87 cs1 u1 u2 u3 u4 u5 u6 u7 = some cs9 → ∀ (H : Heap) (locs : List Loc) (ls : Array Slot), va_P (dC, dI) vwCl (mW cB cI cJ cZ h0 a cs1) H → va_D A (mW cB cI cJ cZ h0 a cs1) → va_S A s.heap H locs → lv_has ls 10 [(0, .ref h0), (1, .int u1), (2, .int u2), (3, .int u3), (4, .int u4), (5, .int u5), (6, .int u6), (7, .int u7)] → W p l e (headSpec (wsOf yX12_differ cX12_differ 10 none) ({ frames := 2, cells := 0, slots := 0, locals := 60 * (2) } : Room)).room s m ([.ref h0, .int x1] : List Value).toArray below meth c H locs 0 0 (MQ below (va_Qv (fun (_ : Unit) => True) (fun _ t_ => va_P (dC, dI) vwCl (mW cB cI cJ cZ h0 a cs9) t_.heap ∧ va_D A (mW cB cI cJ cZ h0 a cs9)) A) ([.ref h0, .int x1] : List Value).toArray s 0 0 A) (F0 m 87 ls []) := by
        intro lf_87
        induction lf_87 with
        | zero => intro cs1 u1 u2 u3 u4 u5 u6 u7 h; cases (show (none : Option RS) = _ from h)
        | succ lf_87 ih_87 =>
          intro cs1 u1 u2 u3 u4 u5 u6 u7 h H locs ls hP hD hS hl
          rw [m_differ_L87] at h
          refine lv_aload_n hx hb dX12_differ_87 rfl (lv_at hl 0 rfl) ?_
          refine lv_iconst (v := 1) hx hb dX12_differ_88 (by decide) ?_
          refine lv_iload_n hx hb dX12_differ_89 rfl (lv_at hl 2 rfl) ?_
          obtain ⟨v_18, hv_18, h⟩ := ob h
          refine calI (As := [.int 1, .int u2]) hx hb hml hts hown hK hP hD hS hA hZ (s_isLikeNext l dC dI cB cI cJ cZ h0 a K V fz F cs1 1 u2 v_18 hv_18) (cw_isLikeNext hts (fr := 1) (Nat.le_of_ble_eq_true rfl) (Nat.le_of_ble_eq_true rfl)) rfl hl.1 (Nat.le_of_ble_eq_true rfl) ⟨Nat.zero_le _, Nat.zero_le _⟩ dX12_differ_90 (fun H locs hP hD hS => ?_)
          refine lv_if_eq (tgt := 105) hx hb dX12_differ_93 (by decide) (fun c_19 => ?_) (fun c_19 => ?_)
          · skip
            replace h := (if_pos c_19).symm.trans h
            refine lv_iinc (v := u2 + 1) (lv' := [(2, .int (u2 + 1)), (0, .ref h0), (1, .int u1), (3, .int u3), (4, .int u4), (5, .int u5), (6, .int u6), (7, .int u7)]) hx hb dX12_differ_105 hl (k := 2) rfl rfl (by decide) rfl (fun ls hl => ?_)
            exact B_108 cs1 u1 (u2 + 1) u3 u4 u5 u6 u7 h _ _ _ hP hD hS (lv_sub hl [1, 2, 0, 3, 4, 5, 6, 7] rfl)
          · skip
            replace h := (if_neg c_19).symm.trans h
            refine lv_iinc (v := u2 + 1) (lv' := [(2, .int (u2 + 1)), (0, .ref h0), (1, .int u1), (3, .int u3), (4, .int u4), (5, .int u5), (6, .int u6), (7, .int u7)]) hx hb dX12_differ_96 hl (k := 2) rfl rfl (by decide) rfl (fun ls hl => ?_)
            refine lv_iinc (v := u5 + (-1)) (lv' := [(5, .int (u5 + (-1))), (2, .int (u2 + 1)), (0, .ref h0), (1, .int u1), (3, .int u3), (4, .int u4), (6, .int u6), (7, .int u7)]) hx hb dX12_differ_99 hl (k := 5) rfl rfl (by decide) rfl (fun ls hl => ?_)
            refine lv_goto (tgt := 87) hx hb dX12_differ_102 (by decide) ?_
            exact ih_87 cs1 u1 (u2 + 1) u3 u4 (u5 + (-1)) u6 u7 h _ _ _ hP hD hS (lv_sub hl [2, 3, 1, 4, 5, 0, 6, 7] rfl)
      have B_77 : ∀ (cs1 : RS) (u1 : Int32) (u2 : Int32) (u3 : Int32) (u4 : Int32) (u5 : Int32) (u6 : Int32) (y0 : Int32), m_differ_b77 F (m_differ_L4 F lf_4) cs1 u1 u2 u3 u4 u5 u6 y0 = some cs9 → ∀ (H : Heap) (locs : List Loc) (ls : Array Slot), va_P (dC, dI) vwCl (mW cB cI cJ cZ h0 a cs1) H → va_D A (mW cB cI cJ cZ h0 a cs1) → va_S A s.heap H locs → lv_has ls 10 [(0, .ref h0), (1, .int u1), (2, .int u2), (3, .int u3), (4, .int u4), (5, .int u5), (6, .int u6)] → W p l e (headSpec (wsOf yX12_differ cX12_differ 10 none) ({ frames := 2, cells := 0, slots := 0, locals := 60 * (2) } : Room)).room s m ([.ref h0, .int x1] : List Value).toArray below meth c H locs 0 0 (MQ below (va_Qv (fun (_ : Unit) => True) (fun _ t_ => va_P (dC, dI) vwCl (mW cB cI cJ cZ h0 a cs9) t_.heap ∧ va_D A (mW cB cI cJ cZ h0 a cs9)) A) ([.ref h0, .int x1] : List Value).toArray s 0 0 A) (F0 m 77 ls [.int y0]) := by
        intro cs1 u1 u2 u3 u4 u5 u6 y0 h H locs ls hP hD hS hl
        unfold m_differ_b77 at h
        refine lv_istore (lv' := [(7, .int y0), (0, .ref h0), (1, .int u1), (2, .int u2), (3, .int u3), (4, .int u4), (5, .int u5), (6, .int u6)]) hx hb dX12_differ_77 hl (by decide) rfl (fun ls hl => ?_)
        refine lv_iload hx hb dX12_differ_79 (lv_at hl 5 rfl) ?_
        refine lv_if_gt (tgt := 108) hx hb dX12_differ_81 (by decide) (fun c_20 => ?_) (fun c_20 => ?_)
        · skip
          replace h := (if_pos c_20).symm.trans h
          exact B_108 cs1 u1 u2 u3 u4 u5 u6 y0 h _ _ _ hP hD hS (lv_sub hl [1, 2, 3, 4, 5, 6, 7, 0] rfl)
        · skip
          replace h := (if_neg c_20).symm.trans h
          refine lv_iinc (v := u5 + (-1)) (lv' := [(5, .int (u5 + (-1))), (7, .int y0), (0, .ref h0), (1, .int u1), (2, .int u2), (3, .int u3), (4, .int u4), (6, .int u6)]) hx hb dX12_differ_84 hl (k := 6) rfl rfl (by decide) rfl (fun ls hl => ?_)
          exact L_87 F cs1 u1 u2 u3 u4 (u5 + (-1)) u6 y0 h _ _ _ hP hD hS (lv_sub hl [2, 3, 4, 5, 6, 0, 7, 1] rfl)
      have B_65 : ∀ (cs1 : RS) (u1 : Int32) (u2 : Int32) (u3 : Int32) (u4 : Int32) (u5 : Int32) (y0 : Int32), m_differ_b65 F (m_differ_L4 F lf_4) cs1 u1 u2 u3 u4 u5 y0 = some cs9 → ∀ (H : Heap) (locs : List Loc) (ls : Array Slot), va_P (dC, dI) vwCl (mW cB cI cJ cZ h0 a cs1) H → va_D A (mW cB cI cJ cZ h0 a cs1) → va_S A s.heap H locs → lv_has ls 10 [(0, .ref h0), (1, .int u1), (2, .int u2), (3, .int u3), (4, .int u4), (5, .int u5)] → W p l e (headSpec (wsOf yX12_differ cX12_differ 10 none) ({ frames := 2, cells := 0, slots := 0, locals := 60 * (2) } : Room)).room s m ([.ref h0, .int x1] : List Value).toArray below meth c H locs 0 0 (MQ below (va_Qv (fun (_ : Unit) => True) (fun _ t_ => va_P (dC, dI) vwCl (mW cB cI cJ cZ h0 a cs9) t_.heap ∧ va_D A (mW cB cI cJ cZ h0 a cs9)) A) ([.ref h0, .int x1] : List Value).toArray s 0 0 A) (F0 m 65 ls [.int y0]) := by
        intro cs1 u1 u2 u3 u4 u5 y0 h H locs ls hP hD hS hl
        unfold m_differ_b65 at h
        refine lv_istore (lv' := [(6, .int y0), (0, .ref h0), (1, .int u1), (2, .int u2), (3, .int u3), (4, .int u4), (5, .int u5)]) hx hb dX12_differ_65 hl (by decide) rfl (fun ls hl => ?_)
        refine lv_iload hx hb dX12_differ_67 (lv_at hl 5 rfl) ?_
        refine lv_if_lt (tgt := 76) hx hb dX12_differ_69 (by decide) (fun c_21 => ?_) (fun c_21 => ?_)
        · skip
          replace h := (if_pos c_21).symm.trans h
          refine lv_iconst (v := (-1)) hx hb dX12_differ_76 (by decide) ?_
          exact B_77 cs1 u1 u2 u3 u4 u5 y0 (-1) h _ _ _ hP hD hS (lv_sub hl [1, 2, 3, 4, 5, 6, 0] rfl)
        · skip
          replace h := (if_neg c_21).symm.trans h
          refine lv_iload_n hx hb dX12_differ_72 rfl (lv_at hl 4 rfl) ?_
          refine lv_goto (tgt := 77) hx hb dX12_differ_73 (by decide) ?_
          exact B_77 cs1 u1 u2 u3 u4 u5 y0 u3 h _ _ _ hP hD hS (lv_sub hl [1, 2, 3, 4, 5, 6, 0] rfl)
      have B_50 : ∀ (cs1 : RS) (u1 : Int32) (u2 : Int32) (u3 : Int32) (y0 : Int32), m_differ_b50 F (m_differ_L4 F lf_4) cs1 u1 u2 u3 y0 = some cs9 → ∀ (H : Heap) (locs : List Loc) (ls : Array Slot), va_P (dC, dI) vwCl (mW cB cI cJ cZ h0 a cs1) H → va_D A (mW cB cI cJ cZ h0 a cs1) → va_S A s.heap H locs → lv_has ls 10 [(0, .ref h0), (1, .int u1), (2, .int u2), (3, .int u3)] → W p l e (headSpec (wsOf yX12_differ cX12_differ 10 none) ({ frames := 2, cells := 0, slots := 0, locals := 60 * (2) } : Room)).room s m ([.ref h0, .int x1] : List Value).toArray below meth c H locs 0 0 (MQ below (va_Qv (fun (_ : Unit) => True) (fun _ t_ => va_P (dC, dI) vwCl (mW cB cI cJ cZ h0 a cs9) t_.heap ∧ va_D A (mW cB cI cJ cZ h0 a cs9)) A) ([.ref h0, .int x1] : List Value).toArray s 0 0 A) (F0 m 50 ls [.int y0]) := by
        intro cs1 u1 u2 u3 y0 h H locs ls hP hD hS hl
        unfold m_differ_b50 at h
        refine lv_istore (lv' := [(4, .int y0), (0, .ref h0), (1, .int u1), (2, .int u2), (3, .int u3)]) hx hb dX12_differ_50 hl (by decide) rfl (fun ls hl => ?_)
        refine lv_iconst (v := 0) hx hb dX12_differ_52 (by decide) ?_
        refine lv_istore (lv' := [(5, .int 0), (4, .int y0), (0, .ref h0), (1, .int u1), (2, .int u2), (3, .int u3)]) hx hb dX12_differ_53 hl (by decide) rfl (fun ls hl => ?_)
        refine lv_iload hx hb dX12_differ_55 (lv_at hl 1 rfl) ?_
        refine lv_if_gt (tgt := 64) hx hb dX12_differ_57 (by decide) (fun c_22 => ?_) (fun c_22 => ?_)
        · skip
          replace h := (if_pos c_22).symm.trans h
          refine lv_iconst (v := (-1)) hx hb dX12_differ_64 (by decide) ?_
          exact B_65 cs1 u1 u2 u3 y0 0 (-1) h _ _ _ hP hD hS (lv_sub hl [2, 3, 4, 5, 1, 0] rfl)
        · skip
          replace h := (if_neg c_22).symm.trans h
          refine lv_iload_n hx hb dX12_differ_60 rfl (lv_at hl 4 rfl) ?_
          refine lv_goto (tgt := 65) hx hb dX12_differ_61 (by decide) ?_
          exact B_65 cs1 u1 u2 u3 y0 0 u2 h _ _ _ hP hD hS (lv_sub hl [2, 3, 4, 5, 1, 0] rfl)
      have B_20 : ∀ (cs1 : RS) (u1 : Int32) (u2 : Int32) (u3 : Int32), m_differ_b20 F (m_differ_L4 F lf_4) cs1 u1 u2 u3 = some cs9 → ∀ (H : Heap) (locs : List Loc) (ls : Array Slot), va_P (dC, dI) vwCl (mW cB cI cJ cZ h0 a cs1) H → va_D A (mW cB cI cJ cZ h0 a cs1) → va_S A s.heap H locs → lv_has ls 10 [(0, .ref h0), (1, .int u1), (2, .int u2), (3, .int u3)] → W p l e (headSpec (wsOf yX12_differ cX12_differ 10 none) ({ frames := 2, cells := 0, slots := 0, locals := 60 * (2) } : Room)).room s m ([.ref h0, .int x1] : List Value).toArray below meth c H locs 0 0 (MQ below (va_Qv (fun (_ : Unit) => True) (fun _ t_ => va_P (dC, dI) vwCl (mW cB cI cJ cZ h0 a cs9) t_.heap ∧ va_D A (mW cB cI cJ cZ h0 a cs9)) A) ([.ref h0, .int x1] : List Value).toArray s 0 0 A) (F0 m 20 ls []) := by
        intro cs1 u1 u2 u3 h H locs ls hP hD hS hl
        unfold m_differ_b20 at h
        refine lv_iload_n hx hb dX12_differ_20 rfl (lv_at hl 2 rfl) ?_
        refine lv_aload_n hx hb dX12_differ_21 rfl (lv_at hl 0 rfl) ?_
        refine fg_107 hx hb hts hown hK hP dX12_differ_22 ?_
        refine lv_icmp_ne (tgt := 32) hx hb dX12_differ_25 (by decide) (fun c_23 => ?_) (fun c_23 => ?_)
        · skip
          replace h := (if_neg c_23).symm.trans h
          refine lv_iload_n hx hb dX12_differ_32 rfl (lv_at hl 3 rfl) ?_
          refine lv_aload_n hx hb dX12_differ_33 rfl (lv_at hl 0 rfl) ?_
          refine fg_104 hx hb hts hown hK hP dX12_differ_34 ?_
          refine lv_icmp_ne (tgt := 44) hx hb dX12_differ_37 (by decide) (fun c_24 => ?_) (fun c_24 => ?_)
          · skip
            replace h := (if_neg c_24).symm.trans h
            refine lv_aload_n hx hb dX12_differ_44 rfl (lv_at hl 0 rfl) ?_
            refine lv_iload_n hx hb dX12_differ_45 rfl (lv_at hl 2 rfl) ?_
            refine lv_iload_n hx hb dX12_differ_46 rfl (lv_at hl 3 rfl) ?_
            obtain ⟨v_25, hv_25, h⟩ := ob h
            refine calI (As := [.int u2, .int u3]) hx hb hml hts hown hK hP hD hS hA hZ (s_compareAcross l dC dI cB cI cJ cZ h0 a K V fz F cs1 u2 u3 v_25 hv_25) (cw_compareAcross hts (fr := 1) (Nat.le_of_ble_eq_true rfl) (Nat.le_of_ble_eq_true rfl)) rfl hl.1 (Nat.le_of_ble_eq_true rfl) ⟨Nat.zero_le _, Nat.zero_le _⟩ dX12_differ_47 (fun H locs hP hD hS => ?_)
            exact B_50 cs1 u1 u2 u3 v_25 h _ _ _ hP hD hS (lv_sub hl [0, 1, 2, 3] rfl)
          · skip
            replace h := (if_pos c_24).symm.trans h
            refine lv_iconst (v := (-1)) hx hb dX12_differ_40 (by decide) ?_
            refine lv_goto (tgt := 50) hx hb dX12_differ_41 (by decide) ?_
            exact B_50 cs1 u1 u2 u3 (-1) h _ _ _ hP hD hS (lv_sub hl [0, 1, 2, 3] rfl)
        · skip
          replace h := (if_pos c_23).symm.trans h
          refine lv_iconst (v := 1) hx hb dX12_differ_28 (by decide) ?_
          refine lv_goto (tgt := 50) hx hb dX12_differ_29 (by decide) ?_
          exact B_50 cs1 u1 u2 u3 1 h _ _ _ hP hD hS (lv_sub hl [0, 1, 2, 3] rfl)
      intro cs1 u1 u2 u3 h H locs ls hP hD hS hl
      rw [m_differ_L4] at h
      refine lv_iload_n hx hb dX12_differ_4 rfl (lv_at hl 2 rfl) ?_
      refine lv_aload_n hx hb dX12_differ_5 rfl (lv_at hl 0 rfl) ?_
      refine fg_107 hx hb hts hown hK hP dX12_differ_6 ?_
      refine lv_icmp_lt (tgt := 20) hx hb dX12_differ_9 (by decide) (fun c_26 => ?_) (fun c_26 => ?_)
      · skip
        replace h := (if_pos c_26).symm.trans h
        exact B_20 cs1 u1 u2 u3 h _ _ _ hP hD hS (lv_sub hl [0, 1, 2, 3] rfl)
      · skip
        replace h := (if_neg c_26).symm.trans h
        refine lv_iload_n hx hb dX12_differ_12 rfl (lv_at hl 3 rfl) ?_
        refine lv_aload_n hx hb dX12_differ_13 rfl (lv_at hl 0 rfl) ?_
        refine fg_104 hx hb hts hown hK hP dX12_differ_14 ?_
        refine lv_icmp_ge (tgt := 303) hx hb dX12_differ_17 (by decide) (fun c_27 => ?_) (fun c_27 => ?_)
        · skip
          replace h := (if_pos c_27).symm.trans h
          have e1 := Option.some.inj h
          rw [e1] at hP hD
          exact W.vret hx hb hr (fun t_ ht hW => ⟨⟨(), rfl, trivial, by rw [ht]; exact hP, hD⟩, hS.F ht⟩) hS.2.2 dX12_differ_303
        · skip
          replace h := (if_neg c_27).symm.trans h
          exact B_20 cs1 u1 u2 u3 h _ _ _ hP hD hS (lv_sub hl [0, 1, 2, 3] rfl)
  have h := hf
  unfold m_differ at h
  refine lv_iconst (v := 0) hx hb dX12_differ_0 (by decide) ?_
  refine lv_istore_n (lv' := [(2, .int 0), (0, .ref h0), (1, .int x1)]) hx hb dX12_differ_1 rfl hl (by decide) rfl (fun ls hl => ?_)
  refine lv_iconst (v := 0) hx hb dX12_differ_2 (by decide) ?_
  refine lv_istore_n (lv' := [(3, .int 0), (2, .int 0), (0, .ref h0), (1, .int x1)]) hx hb dX12_differ_3 rfl hl (by decide) rfl (fun ls hl => ?_)
  exact L_4 F cs x1 0 0 h _ _ _ hP hD hS (lv_sub hl [2, 3, 1, 0] rfl)
theorem cw_differ {R : Room} {s : State} {args : Array Value} {y0 : MethodName} {c0 : ByteArray} {n0 : Nat} {r0 : Option FieldType} (hts : ∀ w ∈ wsOf y0 c0 n0 r0, w.before args s = true) {fr : Nat} (h1 : fr + 1 ≤ R.frames) (h2 : 8 + (10 + 11) + 60 * fr ≤ R.locals) : CallW R s args RX12 RX12 727 yX12_differ cX12_differ 10 none (wsOf yX12_differ cX12_differ 10 none) ({ frames := fr, cells := 0, slots := 0, locals := 60 * fr } : Room) 0 0 1 := cwV 1 hts (gd_all (in_V kw_2200 kw_2202 kw_129 kw_191 kc_X12_differ)) rfl rfl rfl (by decide +kernel) ⟨h1, h2⟩
theorem dX12_renew_0 : decode cX12_renew 0 = .ok (.aload_n 0, 1) := by decide +kernel
theorem dX12_renew_1 : decode cX12_renew 1 = .ok (.getfield 584, 3) := by decide +kernel
theorem dX12_renew_4 : decode cX12_renew 4 = .ok (.ifCond .ne 4, 3) := by decide +kernel
theorem dX12_renew_7 : decode cX12_renew 7 = .ok (.return_, 1) := by decide +kernel
theorem dX12_renew_8 : decode cX12_renew 8 = .ok (.aload_n 0, 1) := by decide +kernel
theorem dX12_renew_9 : decode cX12_renew 9 = .ok (.iconst 0, 1) := by decide +kernel
theorem dX12_renew_10 : decode cX12_renew 10 = .ok (.putfield 593, 3) := by decide +kernel
theorem dX12_renew_13 : decode cX12_renew 13 = .ok (.aload_n 0, 1) := by decide +kernel
theorem dX12_renew_14 : decode cX12_renew 14 = .ok (.iconst 0, 1) := by decide +kernel
theorem dX12_renew_15 : decode cX12_renew 15 = .ok (.putfield 590, 3) := by decide +kernel
theorem dX12_renew_18 : decode cX12_renew 18 = .ok (.aload_n 0, 1) := by decide +kernel
theorem dX12_renew_19 : decode cX12_renew 19 = .ok (.iconst 0, 1) := by decide +kernel
theorem dX12_renew_20 : decode cX12_renew 20 = .ok (.invokevirtual 659, 3) := by decide +kernel
theorem dX12_renew_23 : decode cX12_renew 23 = .ok (.istore_n 2, 1) := by decide +kernel
theorem dX12_renew_24 : decode cX12_renew 24 = .ok (.aload_n 0, 1) := by decide +kernel
theorem dX12_renew_25 : decode cX12_renew 25 = .ok (.getfield 206, 3) := by decide +kernel
theorem dX12_renew_28 : decode cX12_renew 28 = .ok (.iload_n 2, 1) := by decide +kernel
theorem dX12_renew_29 : decode cX12_renew 29 = .ok (.iaload, 1) := by decide +kernel
theorem dX12_renew_30 : decode cX12_renew 30 = .ok (.istore_n 3, 1) := by decide +kernel
theorem dX12_renew_31 : decode cX12_renew 31 = .ok (.aload_n 0, 1) := by decide +kernel
theorem dX12_renew_32 : decode cX12_renew 32 = .ok (.aload_n 0, 1) := by decide +kernel
theorem dX12_renew_33 : decode cX12_renew 33 = .ok (.getfield 713, 3) := by decide +kernel
theorem dX12_renew_36 : decode cX12_renew 36 = .ok (.putfield 716, 3) := by decide +kernel
theorem dX12_renew_39 : decode cX12_renew 39 = .ok (.iconst 0, 1) := by decide +kernel
theorem dX12_renew_40 : decode cX12_renew 40 = .ok (.istore 4, 2) := by decide +kernel
theorem dX12_renew_42 : decode cX12_renew 42 = .ok (.iload 4, 2) := by decide +kernel
theorem dX12_renew_44 : decode cX12_renew 44 = .ok (.aload_n 0, 1) := by decide +kernel
theorem dX12_renew_45 : decode cX12_renew 45 = .ok (.getfield 713, 3) := by decide +kernel
theorem dX12_renew_48 : decode cX12_renew 48 = .ok (.aload_n 0, 1) := by decide +kernel
theorem dX12_renew_49 : decode cX12_renew 49 = .ok (.getfield 719, 3) := by decide +kernel
theorem dX12_renew_52 : decode cX12_renew 52 = .ok (.imul, 1) := by decide +kernel
theorem dX12_renew_53 : decode cX12_renew 53 = .ok (.if_icmp .ge 37, 3) := by decide +kernel
theorem dX12_renew_56 : decode cX12_renew 56 = .ok (.aload_n 0, 1) := by decide +kernel
theorem dX12_renew_57 : decode cX12_renew 57 = .ok (.getfield 227, 3) := by decide +kernel
theorem dX12_renew_60 : decode cX12_renew 60 = .ok (.iload 4, 2) := by decide +kernel
theorem dX12_renew_62 : decode cX12_renew 62 = .ok (.aload_n 0, 1) := by decide +kernel
theorem dX12_renew_63 : decode cX12_renew 63 = .ok (.getfield 221, 3) := by decide +kernel
theorem dX12_renew_66 : decode cX12_renew 66 = .ok (.iload 4, 2) := by decide +kernel
theorem dX12_renew_68 : decode cX12_renew 68 = .ok (.laload, 1) := by decide +kernel
theorem dX12_renew_69 : decode cX12_renew 69 = .ok (.lastore, 1) := by decide +kernel
theorem dX12_renew_70 : decode cX12_renew 70 = .ok (.aload_n 0, 1) := by decide +kernel
theorem dX12_renew_71 : decode cX12_renew 71 = .ok (.getfield 230, 3) := by decide +kernel
theorem dX12_renew_74 : decode cX12_renew 74 = .ok (.iload 4, 2) := by decide +kernel
theorem dX12_renew_76 : decode cX12_renew 76 = .ok (.aload_n 0, 1) := by decide +kernel
theorem dX12_renew_77 : decode cX12_renew 77 = .ok (.getfield 224, 3) := by decide +kernel
theorem dX12_renew_80 : decode cX12_renew 80 = .ok (.iload 4, 2) := by decide +kernel
theorem dX12_renew_82 : decode cX12_renew 82 = .ok (.baload, 1) := by decide +kernel
theorem dX12_renew_83 : decode cX12_renew 83 = .ok (.bastore, 1) := by decide +kernel
theorem dX12_renew_84 : decode cX12_renew 84 = .ok (.iinc 4 1, 3) := by decide +kernel
theorem dX12_renew_87 : decode cX12_renew 87 = .ok (.goto (-45), 3) := by decide +kernel
theorem dX12_renew_90 : decode cX12_renew 90 = .ok (.aload_n 0, 1) := by decide +kernel
theorem dX12_renew_91 : decode cX12_renew 91 = .ok (.iload_n 2, 1) := by decide +kernel
theorem dX12_renew_92 : decode cX12_renew 92 = .ok (.invokevirtual 722, 3) := by decide +kernel
theorem dX12_renew_95 : decode cX12_renew 95 = .ok (.aload_n 0, 1) := by decide +kernel
theorem dX12_renew_96 : decode cX12_renew 96 = .ok (.aload_n 0, 1) := by decide +kernel
theorem dX12_renew_97 : decode cX12_renew 97 = .ok (.getfield 203, 3) := by decide +kernel
theorem dX12_renew_100 : decode cX12_renew 100 = .ok (.iload_n 2, 1) := by decide +kernel
theorem dX12_renew_101 : decode cX12_renew 101 = .ok (.iaload, 1) := by decide +kernel
theorem dX12_renew_102 : decode cX12_renew 102 = .ok (.putfield 724, 3) := by decide +kernel
theorem dX12_renew_105 : decode cX12_renew 105 = .ok (.aload_n 0, 1) := by decide +kernel
theorem dX12_renew_106 : decode cX12_renew 106 = .ok (.iload_n 3, 1) := by decide +kernel
theorem dX12_renew_107 : decode cX12_renew 107 = .ok (.putfield 719, 3) := by decide +kernel
theorem dX12_renew_110 : decode cX12_renew 110 = .ok (.aload_n 0, 1) := by decide +kernel
theorem dX12_renew_111 : decode cX12_renew 111 = .ok (.aload_n 0, 1) := by decide +kernel
theorem dX12_renew_112 : decode cX12_renew 112 = .ok (.getfield 724, 3) := by decide +kernel
theorem dX12_renew_115 : decode cX12_renew 115 = .ok (.putfield 713, 3) := by decide +kernel
theorem dX12_renew_118 : decode cX12_renew 118 = .ok (.iconst 0, 1) := by decide +kernel
theorem dX12_renew_119 : decode cX12_renew 119 = .ok (.istore 4, 2) := by decide +kernel
theorem dX12_renew_121 : decode cX12_renew 121 = .ok (.iload 4, 2) := by decide +kernel
theorem dX12_renew_123 : decode cX12_renew 123 = .ok (.aload_n 0, 1) := by decide +kernel
theorem dX12_renew_124 : decode cX12_renew 124 = .ok (.getfield 724, 3) := by decide +kernel
theorem dX12_renew_127 : decode cX12_renew 127 = .ok (.if_icmp .ge 184, 3) := by decide +kernel
theorem dX12_renew_130 : decode cX12_renew 130 = .ok (.aload_n 0, 1) := by decide +kernel
theorem dX12_renew_131 : decode cX12_renew 131 = .ok (.iload_n 2, 1) := by decide +kernel
theorem dX12_renew_132 : decode cX12_renew 132 = .ok (.aload_n 0, 1) := by decide +kernel
theorem dX12_renew_133 : decode cX12_renew 133 = .ok (.getfield 242, 3) := by decide +kernel
theorem dX12_renew_136 : decode cX12_renew 136 = .ok (.iload 4, 2) := by decide +kernel
theorem dX12_renew_138 : decode cX12_renew 138 = .ok (.iaload, 1) := by decide +kernel
theorem dX12_renew_139 : decode cX12_renew 139 = .ok (.invokevirtual 653, 3) := by decide +kernel
theorem dX12_renew_142 : decode cX12_renew 142 = .ok (.istore 5, 2) := by decide +kernel
theorem dX12_renew_144 : decode cX12_renew 144 = .ok (.aload_n 0, 1) := by decide +kernel
theorem dX12_renew_145 : decode cX12_renew 145 = .ok (.getfield 172, 3) := by decide +kernel
theorem dX12_renew_148 : decode cX12_renew 148 = .ok (.iconst 0, 1) := by decide +kernel
theorem dX12_renew_149 : decode cX12_renew 149 = .ok (.iaload, 1) := by decide +kernel
theorem dX12_renew_150 : decode cX12_renew 150 = .ok (.iconst (-1), 1) := by decide +kernel
theorem dX12_renew_151 : decode cX12_renew 151 = .ok (.if_icmp .ne 8, 3) := by decide +kernel
theorem dX12_renew_154 : decode cX12_renew 154 = .ok (.iload 5, 2) := by decide +kernel
theorem dX12_renew_156 : decode cX12_renew 156 = .ok (.goto 10, 3) := by decide +kernel
theorem dX12_renew_159 : decode cX12_renew 159 = .ok (.aload_n 0, 1) := by decide +kernel
theorem dX12_renew_160 : decode cX12_renew 160 = .ok (.iload_n 2, 1) := by decide +kernel
theorem dX12_renew_161 : decode cX12_renew 161 = .ok (.iload 4, 2) := by decide +kernel
theorem dX12_renew_163 : decode cX12_renew 163 = .ok (.invokevirtual 653, 3) := by decide +kernel
theorem dX12_renew_166 : decode cX12_renew 166 = .ok (.istore 6, 2) := by decide +kernel
theorem dX12_renew_168 : decode cX12_renew 168 = .ok (.iconst 0, 1) := by decide +kernel
theorem dX12_renew_169 : decode cX12_renew 169 = .ok (.istore 7, 2) := by decide +kernel
theorem dX12_renew_171 : decode cX12_renew 171 = .ok (.iload 7, 2) := by decide +kernel
theorem dX12_renew_173 : decode cX12_renew 173 = .ok (.iload_n 3, 1) := by decide +kernel
theorem dX12_renew_174 : decode cX12_renew 174 = .ok (.if_icmp .ge 131, 3) := by decide +kernel
theorem dX12_renew_177 : decode cX12_renew 177 = .ok (.aload_n 0, 1) := by decide +kernel
theorem dX12_renew_178 : decode cX12_renew 178 = .ok (.getfield 221, 3) := by decide +kernel
theorem dX12_renew_181 : decode cX12_renew 181 = .ok (.iload_n 3, 1) := by decide +kernel
theorem dX12_renew_182 : decode cX12_renew 182 = .ok (.iload 4, 2) := by decide +kernel
theorem dX12_renew_184 : decode cX12_renew 184 = .ok (.imul, 1) := by decide +kernel
theorem dX12_renew_185 : decode cX12_renew 185 = .ok (.iload 7, 2) := by decide +kernel
theorem dX12_renew_187 : decode cX12_renew 187 = .ok (.iadd, 1) := by decide +kernel
theorem dX12_renew_188 : decode cX12_renew 188 = .ok (.aload_n 0, 1) := by decide +kernel
theorem dX12_renew_189 : decode cX12_renew 189 = .ok (.getfield 197, 3) := by decide +kernel
theorem dX12_renew_192 : decode cX12_renew 192 = .ok (.iload 5, 2) := by decide +kernel
theorem dX12_renew_194 : decode cX12_renew 194 = .ok (.iload 7, 2) := by decide +kernel
theorem dX12_renew_196 : decode cX12_renew 196 = .ok (.iadd, 1) := by decide +kernel
theorem dX12_renew_197 : decode cX12_renew 197 = .ok (.baload, 1) := by decide +kernel
theorem dX12_renew_198 : decode cX12_renew 198 = .ok (.ifCond .eq 7, 3) := by decide +kernel
theorem dX12_renew_201 : decode cX12_renew 201 = .ok (.lconst 0, 1) := by decide +kernel
theorem dX12_renew_202 : decode cX12_renew 202 = .ok (.goto 13, 3) := by decide +kernel
theorem dX12_renew_205 : decode cX12_renew 205 = .ok (.aload_n 0, 1) := by decide +kernel
theorem dX12_renew_206 : decode cX12_renew 206 = .ok (.getfield 194, 3) := by decide +kernel
theorem dX12_renew_209 : decode cX12_renew 209 = .ok (.iload 5, 2) := by decide +kernel
theorem dX12_renew_211 : decode cX12_renew 211 = .ok (.iload 7, 2) := by decide +kernel
theorem dX12_renew_213 : decode cX12_renew 213 = .ok (.iadd, 1) := by decide +kernel
theorem dX12_renew_214 : decode cX12_renew 214 = .ok (.laload, 1) := by decide +kernel
theorem dX12_renew_215 : decode cX12_renew 215 = .ok (.lastore, 1) := by decide +kernel
theorem dX12_renew_216 : decode cX12_renew 216 = .ok (.aload_n 0, 1) := by decide +kernel
theorem dX12_renew_217 : decode cX12_renew 217 = .ok (.getfield 224, 3) := by decide +kernel
theorem dX12_renew_220 : decode cX12_renew 220 = .ok (.iload_n 3, 1) := by decide +kernel
theorem dX12_renew_221 : decode cX12_renew 221 = .ok (.iload 4, 2) := by decide +kernel
theorem dX12_renew_223 : decode cX12_renew 223 = .ok (.imul, 1) := by decide +kernel
theorem dX12_renew_224 : decode cX12_renew 224 = .ok (.iload 7, 2) := by decide +kernel
theorem dX12_renew_226 : decode cX12_renew 226 = .ok (.iadd, 1) := by decide +kernel
theorem dX12_renew_227 : decode cX12_renew 227 = .ok (.aload_n 0, 1) := by decide +kernel
theorem dX12_renew_228 : decode cX12_renew 228 = .ok (.getfield 197, 3) := by decide +kernel
theorem dX12_renew_231 : decode cX12_renew 231 = .ok (.iload 5, 2) := by decide +kernel
theorem dX12_renew_233 : decode cX12_renew 233 = .ok (.iload 7, 2) := by decide +kernel
theorem dX12_renew_235 : decode cX12_renew 235 = .ok (.iadd, 1) := by decide +kernel
theorem dX12_renew_236 : decode cX12_renew 236 = .ok (.baload, 1) := by decide +kernel
theorem dX12_renew_237 : decode cX12_renew 237 = .ok (.bastore, 1) := by decide +kernel
theorem dX12_renew_238 : decode cX12_renew 238 = .ok (.aload_n 0, 1) := by decide +kernel
theorem dX12_renew_239 : decode cX12_renew 239 = .ok (.getfield 215, 3) := by decide +kernel
theorem dX12_renew_242 : decode cX12_renew 242 = .ok (.iload_n 3, 1) := by decide +kernel
theorem dX12_renew_243 : decode cX12_renew 243 = .ok (.iload 4, 2) := by decide +kernel
theorem dX12_renew_245 : decode cX12_renew 245 = .ok (.imul, 1) := by decide +kernel
theorem dX12_renew_246 : decode cX12_renew 246 = .ok (.iload 7, 2) := by decide +kernel
theorem dX12_renew_248 : decode cX12_renew 248 = .ok (.iadd, 1) := by decide +kernel
theorem dX12_renew_249 : decode cX12_renew 249 = .ok (.aload_n 0, 1) := by decide +kernel
theorem dX12_renew_250 : decode cX12_renew 250 = .ok (.getfield 197, 3) := by decide +kernel
theorem dX12_renew_253 : decode cX12_renew 253 = .ok (.iload 6, 2) := by decide +kernel
theorem dX12_renew_255 : decode cX12_renew 255 = .ok (.iload 7, 2) := by decide +kernel
theorem dX12_renew_257 : decode cX12_renew 257 = .ok (.iadd, 1) := by decide +kernel
theorem dX12_renew_258 : decode cX12_renew 258 = .ok (.baload, 1) := by decide +kernel
theorem dX12_renew_259 : decode cX12_renew 259 = .ok (.ifCond .eq 7, 3) := by decide +kernel
theorem dX12_renew_262 : decode cX12_renew 262 = .ok (.lconst 0, 1) := by decide +kernel
theorem dX12_renew_263 : decode cX12_renew 263 = .ok (.goto 13, 3) := by decide +kernel
theorem dX12_renew_266 : decode cX12_renew 266 = .ok (.aload_n 0, 1) := by decide +kernel
theorem dX12_renew_267 : decode cX12_renew 267 = .ok (.getfield 194, 3) := by decide +kernel
theorem dX12_renew_270 : decode cX12_renew 270 = .ok (.iload 6, 2) := by decide +kernel
theorem dX12_renew_272 : decode cX12_renew 272 = .ok (.iload 7, 2) := by decide +kernel
theorem dX12_renew_274 : decode cX12_renew 274 = .ok (.iadd, 1) := by decide +kernel
theorem dX12_renew_275 : decode cX12_renew 275 = .ok (.laload, 1) := by decide +kernel
theorem dX12_renew_276 : decode cX12_renew 276 = .ok (.lastore, 1) := by decide +kernel
theorem dX12_renew_277 : decode cX12_renew 277 = .ok (.aload_n 0, 1) := by decide +kernel
theorem dX12_renew_278 : decode cX12_renew 278 = .ok (.getfield 218, 3) := by decide +kernel
theorem dX12_renew_281 : decode cX12_renew 281 = .ok (.iload_n 3, 1) := by decide +kernel
theorem dX12_renew_282 : decode cX12_renew 282 = .ok (.iload 4, 2) := by decide +kernel
theorem dX12_renew_284 : decode cX12_renew 284 = .ok (.imul, 1) := by decide +kernel
theorem dX12_renew_285 : decode cX12_renew 285 = .ok (.iload 7, 2) := by decide +kernel
theorem dX12_renew_287 : decode cX12_renew 287 = .ok (.iadd, 1) := by decide +kernel
theorem dX12_renew_288 : decode cX12_renew 288 = .ok (.aload_n 0, 1) := by decide +kernel
theorem dX12_renew_289 : decode cX12_renew 289 = .ok (.getfield 197, 3) := by decide +kernel
theorem dX12_renew_292 : decode cX12_renew 292 = .ok (.iload 6, 2) := by decide +kernel
theorem dX12_renew_294 : decode cX12_renew 294 = .ok (.iload 7, 2) := by decide +kernel
theorem dX12_renew_296 : decode cX12_renew 296 = .ok (.iadd, 1) := by decide +kernel
theorem dX12_renew_297 : decode cX12_renew 297 = .ok (.baload, 1) := by decide +kernel
theorem dX12_renew_298 : decode cX12_renew 298 = .ok (.bastore, 1) := by decide +kernel
theorem dX12_renew_299 : decode cX12_renew 299 = .ok (.iinc 7 1, 3) := by decide +kernel
theorem dX12_renew_302 : decode cX12_renew 302 = .ok (.goto (-131), 3) := by decide +kernel
theorem dX12_renew_305 : decode cX12_renew 305 = .ok (.iinc 4 1, 3) := by decide +kernel
theorem dX12_renew_308 : decode cX12_renew 308 = .ok (.goto (-187), 3) := by decide +kernel
theorem dX12_renew_311 : decode cX12_renew 311 = .ok (.aload_n 0, 1) := by decide +kernel
theorem dX12_renew_312 : decode cX12_renew 312 = .ok (.iconst 0, 1) := by decide +kernel
theorem dX12_renew_313 : decode cX12_renew 313 = .ok (.putfield 271, 3) := by decide +kernel
theorem dX12_renew_316 : decode cX12_renew 316 = .ok (.iload_n 1, 1) := by decide +kernel
theorem dX12_renew_317 : decode cX12_renew 317 = .ok (.ifCond .eq 13, 3) := by decide +kernel
theorem dX12_renew_320 : decode cX12_renew 320 = .ok (.aload_n 0, 1) := by decide +kernel
theorem dX12_renew_321 : decode cX12_renew 321 = .ok (.iconst 0, 1) := by decide +kernel
theorem dX12_renew_322 : decode cX12_renew 322 = .ok (.invokevirtual 727, 3) := by decide +kernel
theorem dX12_renew_325 : decode cX12_renew 325 = .ok (.aload_n 0, 1) := by decide +kernel
theorem dX12_renew_326 : decode cX12_renew 326 = .ok (.iconst 1, 1) := by decide +kernel
theorem dX12_renew_327 : decode cX12_renew 327 = .ok (.invokevirtual 727, 3) := by decide +kernel
theorem dX12_renew_330 : decode cX12_renew 330 = .ok (.return_, 1) := by decide +kernel
def m_renew_b330 (F : Nat) (cs1 : RS) : Option RS := some cs1
def m_renew_b276 (F : Nat) (rc121 : RS → Int32 → Int32 → Int32 → Int32 → Option RS) (rc171 : RS → Int32 → Int32 → Int32 → Int32 → Int32 → Int32 → Int32 → Option RS) (cs1 : RS) (u1 : Int32) (u2 : Int32) (u3 : Int32) (u4 : Int32) (u5 : Int32) (u6 : Int32) (u7 : Int32) (y0 : Int64) (y1 : Int32) : Option RS := Option.bind (wrL cs1 102 4800 y1 y0) fun cs_1 => Option.bind (rdI (cs_1.2.2.1 86) 400000 (u6 + u7)) fun v_2 => Option.bind (wrI cs_1 103 4800 ((u3 * u4) + u7) (vp_nar .boolean v_2)) fun cs_3 => rc171 cs_3 u1 u2 u3 u4 u5 u6 (u7 + 1)
def m_renew_b215 (F : Nat) (rc121 : RS → Int32 → Int32 → Int32 → Int32 → Option RS) (rc171 : RS → Int32 → Int32 → Int32 → Int32 → Int32 → Int32 → Int32 → Option RS) (cs1 : RS) (u1 : Int32) (u2 : Int32) (u3 : Int32) (u4 : Int32) (u5 : Int32) (u6 : Int32) (u7 : Int32) (y0 : Int64) (y1 : Int32) : Option RS := Option.bind (wrL cs1 105 4800 y1 y0) fun cs_4 => Option.bind (rdI (cs_4.2.2.1 86) 400000 (u5 + u7)) fun v_5 => Option.bind (wrI cs_4 106 4800 ((u3 * u4) + u7) (vp_nar .boolean v_5)) fun cs_6 => Option.bind (rdI (cs_6.2.2.1 86) 400000 (u6 + u7)) fun v_7 => if v_7 = 0 then (Option.bind (rdL (cs_6.2.2.2 85) 400000 (u6 + u7)) fun v_9 => m_renew_b276 F rc121 rc171 cs_6 u1 u2 u3 u4 u5 u6 u7 v_9 ((u3 * u4) + u7)) else (m_renew_b276 F rc121 rc171 cs_6 u1 u2 u3 u4 u5 u6 u7 0 ((u3 * u4) + u7))
def m_renew_L171 (F : Nat) (rc121 : RS → Int32 → Int32 → Int32 → Int32 → Option RS) : Nat → RS → Int32 → Int32 → Int32 → Int32 → Int32 → Int32 → Int32 → Option RS
  | 0, _, _, _, _, _, _, _, _ => none
  | lf_171 + 1, cs1, u1, u2, u3, u4, u5, u6, u7 => if u3 ≤ u7 then (rc121 cs1 u1 u2 u3 (u4 + 1)) else (Option.bind (rdI (cs1.2.2.1 86) 400000 (u5 + u7)) fun v_11 => if v_11 = 0 then (Option.bind (rdL (cs1.2.2.2 85) 400000 (u5 + u7)) fun v_13 => m_renew_b215 F rc121 (m_renew_L171 F rc121 lf_171) cs1 u1 u2 u3 u4 u5 u6 u7 v_13 ((u3 * u4) + u7)) else (m_renew_b215 F rc121 (m_renew_L171 F rc121 lf_171) cs1 u1 u2 u3 u4 u5 u6 u7 0 ((u3 * u4) + u7)))
def m_renew_b166 (F : Nat) (rc121 : RS → Int32 → Int32 → Int32 → Int32 → Option RS) (cs1 : RS) (u1 : Int32) (u2 : Int32) (u3 : Int32) (u4 : Int32) (u5 : Int32) (y0 : Int32) : Option RS := m_renew_L171 F rc121 F cs1 u1 u2 u3 u4 u5 y0 0
def m_renew_L121 (F : Nat) : Nat → RS → Int32 → Int32 → Int32 → Int32 → Option RS
  | 0, _, _, _, _, _ => none
  | lf_121 + 1, cs1, u1, u2, u3, u4 => if (cs1.1 100) ≤ u4 then (if u1 = 0 then (m_renew_b330 F (setF cs1 110 0)) else (Option.bind (m_differ F (setF cs1 110 0) 0) fun cs_16 => Option.bind (m_differ F cs_16 1) fun cs_17 => m_renew_b330 F cs_17)) else (Option.bind (rdI (cs1.2.2.1 114) 700 u4) fun v_18 => Option.bind (m_rowAt F cs1 u2 v_18) fun v_19 => Option.bind (rdI (cs1.2.2.1 65) 60 0) fun v_20 => if v_20 = (-1) then (m_renew_b166 F (m_renew_L121 F lf_121) cs1 u1 u2 u3 u4 v_19 v_19) else (Option.bind (m_rowAt F cs1 u2 u4) fun v_22 => m_renew_b166 F (m_renew_L121 F lf_121) cs1 u1 u2 u3 u4 v_19 v_22))
def m_renew_L42 (F : Nat) : Nat → RS → Int32 → Int32 → Int32 → Int32 → Option RS
  | 0, _, _, _, _, _ => none
  | lf_42 + 1, cs1, u1, u2, u3, u4 => if ((cs1.1 104) * (cs1.1 101)) ≤ u4 then (Option.bind (m_sort F cs1 u2) fun cs_24 => Option.bind (rdI (cs_24.2.2.1 89) 400 u2) fun v_25 => m_renew_L121 F F (setF (setF (setF cs_24 100 v_25) 101 u3) 104 ((setF (setF cs_24 100 v_25) 101 u3).1 100)) u1 u2 u3 0) else (Option.bind (rdL (cs1.2.2.2 105) 4800 u4) fun v_26 => Option.bind (wrL cs1 108 4800 u4 v_26) fun cs_27 => Option.bind (rdI (cs_27.2.2.1 106) 4800 u4) fun v_28 => Option.bind (wrI cs_27 109 4800 u4 (vp_nar .boolean v_28)) fun cs_29 => (m_renew_L42 F lf_42) cs_29 u1 u2 u3 (u4 + 1))
def m_renew (F : Nat) (cs : RS) (x1 : Int32) : Option RS := if (cs.1 81) = 0 then (some cs) else (Option.bind (m_workQuery F 300 (setF (setF cs 87 0) 91 0) 0) fun z_31 => Option.bind (rdI (z_31.1.2.2.1 90) 400 z_31.2) fun v_32 => m_renew_L42 F F (setF z_31.1 107 (z_31.1.1 104)) x1 z_31.2 v_32 0)
set_option maxHeartbeats 4000000 in
set_option maxRecDepth 100000 in
theorem s_renew (l : Launch) (dC : Nat → ClassId) (dI : Nat → Nat → Nat) (cB cI cJ cZ : ClassId) (h0 : Nat) (a : Nat → Nat) (K V : Nat → Nat) (fz : Value) (F : Nat) (cs : RS) (x1 : Int32) (cs9 : RS) (hf : m_renew F cs x1 = some cs9) : okV l dC dI cB cI cJ cZ h0 a K V fz yX12_renew (wsOf yX12_renew cX12_renew 8 none) (605) [.ref h0, .int x1] cs cs9 := by
  intro sz
  refine Met.ofW (cc := cX12_renew) (maxL := 8) (ret := none) (by decide) rfl ?_
  intro p e s m args below meth c s₁ B hml hv
  obtain ⟨rfl, hsz, hP, hK, hD0, hZ⟩ := hv
  have hx := B.exec
  have hb := B.bytes
  have hr := B.returns
  have hts := atoms_spec (ws := (wsOf yX12_renew cX12_renew 8 none)) B.pre
  have hown : s.vm.findClass RX12 = some m.cls := findClass_of_methodNamed B.named
  have hlocks := B.notSynchronized
  subst hsz
  have hD := hD0.self (sz := s.heap.size)
  generalize hAe : va_A (mW cB cI cJ cZ h0 a cs) s.heap.size = A at hD hZ ⊢
  have hA : ∀ q : Nat, s.heap.size ≤ q → A q := fun q h => by rw [← hAe]; exact Or.inr h
  have hS : va_S A s.heap s.heap [] := va_S.rf
  have hl := lv_entry ([.ref h0, .int x1]) (n := 8) (Nat.le_of_ble_eq_true rfl)
  rw [lg_entry_eq]
  generalize (lg_sl ([.ref h0, .int x1]) ++ List.replicate (8 - (lg_sl ([.ref h0, .int x1])).length) Slot.unset).toArray = ls at hl ⊢
  have hl : lv_has ls 8 [(0, .ref h0), (1, .int x1)] := hl
  have B_330 : ∀ (cs1 : RS) , m_renew_b330 F cs1 = some cs9 → ∀ (H : Heap) (locs : List Loc) (ls : Array Slot), va_P (dC, dI) vwCl (mW cB cI cJ cZ h0 a cs1) H → va_D A (mW cB cI cJ cZ h0 a cs1) → va_S A s.heap H locs → lv_has ls 8 [] → W p l e (headSpec (wsOf yX12_renew cX12_renew 8 none) ({ frames := 605, cells := 0, slots := 0, locals := 60 * (605) } : Room)).room s m ([.ref h0, .int x1] : List Value).toArray below meth c H locs 0 0 (MQ below (va_Qv (fun (_ : Unit) => True) (fun _ t_ => va_P (dC, dI) vwCl (mW cB cI cJ cZ h0 a cs9) t_.heap ∧ va_D A (mW cB cI cJ cZ h0 a cs9)) A) ([.ref h0, .int x1] : List Value).toArray s 0 0 A) (F0 m 330 ls []) := by
    intro cs1  h H locs ls hP hD hS hl
    unfold m_renew_b330 at h
    have e1 := Option.some.inj h
    rw [e1] at hP hD
    exact W.vret hx hb hr (fun t_ ht hW => ⟨⟨(), rfl, trivial, by rw [ht]; exact hP, hD⟩, hS.F ht⟩) hS.2.2 dX12_renew_330
  have L_121 : ∀ (lf_121 : Nat), ∀ (cs1 : RS) (u1 : Int32) (u2 : Int32) (u3 : Int32) (u4 : Int32), m_renew_L121 F lf_121 cs1 u1 u2 u3 u4 = some cs9 → ∀ (H : Heap) (locs : List Loc) (ls : Array Slot), va_P (dC, dI) vwCl (mW cB cI cJ cZ h0 a cs1) H → va_D A (mW cB cI cJ cZ h0 a cs1) → va_S A s.heap H locs → lv_has ls 8 [(0, .ref h0), (1, .int u1), (2, .int u2), (3, .int u3), (4, .int u4)] → W p l e (headSpec (wsOf yX12_renew cX12_renew 8 none) ({ frames := 605, cells := 0, slots := 0, locals := 60 * (605) } : Room)).room s m ([.ref h0, .int x1] : List Value).toArray below meth c H locs 0 0 (MQ below (va_Qv (fun (_ : Unit) => True) (fun _ t_ => va_P (dC, dI) vwCl (mW cB cI cJ cZ h0 a cs9) t_.heap ∧ va_D A (mW cB cI cJ cZ h0 a cs9)) A) ([.ref h0, .int x1] : List Value).toArray s 0 0 A) (F0 m 121 ls []) := by
    intro lf_121
    induction lf_121 with
    | zero => intro cs1 u1 u2 u3 u4 h; cases (show (none : Option RS) = _ from h)
    | succ lf_121 ih_121 =>
      have L_171 : ∀ (lf_171 : Nat), ∀ (cs1 : RS) (u1 : Int32) (u2 : Int32) (u3 : Int32) (u4 : Int32) (u5 : Int32) (u6 : Int32) (u7 : Int32), m_renew_L171 F (m_renew_L121 F lf_121) lf_171 cs1 u1 u2 u3 u4 u5 u6 u7 = some cs9 → ∀ (H : Heap) (locs : List Loc) (ls : Array Slot), va_P (dC, dI) vwCl (mW cB cI cJ cZ h0 a cs1) H → va_D A (mW cB cI cJ cZ h0 a cs1) → va_S A s.heap H locs → lv_has ls 8 [(0, .ref h0), (1, .int u1), (2, .int u2), (3, .int u3), (4, .int u4), (5, .int u5), (6, .int u6), (7, .int u7)] → W p l e (headSpec (wsOf yX12_renew cX12_renew 8 none) ({ frames := 605, cells := 0, slots := 0, locals := 60 * (605) } : Room)).room s m ([.ref h0, .int x1] : List Value).toArray below meth c H locs 0 0 (MQ below (va_Qv (fun (_ : Unit) => True) (fun _ t_ => va_P (dC, dI) vwCl (mW cB cI cJ cZ h0 a cs9) t_.heap ∧ va_D A (mW cB cI cJ cZ h0 a cs9)) A) ([.ref h0, .int x1] : List Value).toArray s 0 0 A) (F0 m 171 ls []) := by
        intro lf_171
        induction lf_171 with
        | zero => intro cs1 u1 u2 u3 u4 u5 u6 u7 h; cases (show (none : Option RS) = _ from h)
        | succ lf_171 ih_171 =>
          have B_276 : ∀ (cs1 : RS) (u1 : Int32) (u2 : Int32) (u3 : Int32) (u4 : Int32) (u5 : Int32) (u6 : Int32) (u7 : Int32) (y0 : Int64) (y1 : Int32), m_renew_b276 F (m_renew_L121 F lf_121) (m_renew_L171 F (m_renew_L121 F lf_121) lf_171) cs1 u1 u2 u3 u4 u5 u6 u7 y0 y1 = some cs9 → ∀ (H : Heap) (locs : List Loc) (ls : Array Slot), va_P (dC, dI) vwCl (mW cB cI cJ cZ h0 a cs1) H → va_D A (mW cB cI cJ cZ h0 a cs1) → va_S A s.heap H locs → lv_has ls 8 [(0, .ref h0), (1, .int u1), (2, .int u2), (3, .int u3), (4, .int u4), (5, .int u5), (6, .int u6), (7, .int u7)] → W p l e (headSpec (wsOf yX12_renew cX12_renew 8 none) ({ frames := 605, cells := 0, slots := 0, locals := 60 * (605) } : Room)).room s m ([.ref h0, .int x1] : List Value).toArray below meth c H locs 0 0 (MQ below (va_Qv (fun (_ : Unit) => True) (fun _ t_ => va_P (dC, dI) vwCl (mW cB cI cJ cZ h0 a cs9) t_.heap ∧ va_D A (mW cB cI cJ cZ h0 a cs9)) A) ([.ref h0, .int x1] : List Value).toArray s 0 0 A) (F0 m 276 ls [.long y0, .int y1, .ref (a 102)]) := by
            intro cs1 u1 u2 u3 u4 u5 u6 u7 y0 y1 h H locs ls hP hD hS hl
            unfold m_renew_b276 at h
            obtain ⟨cs_1, hv_1, h⟩ := ob h
            refine ap_102 hx hb hK hP hD hS hv_1 dX12_renew_276 (fun H locs hP hD hS => ?_)
            refine lv_aload_n hx hb dX12_renew_277 rfl (lv_at hl 0 rfl) ?_
            refine fg_103 hx hb hts hown hK hP dX12_renew_278 ?_
            refine lv_iload_n hx hb dX12_renew_281 rfl (lv_at hl 3 rfl) ?_
            refine lv_iload hx hb dX12_renew_282 (lv_at hl 4 rfl) ?_
            refine lv_imul hx hb dX12_renew_284 ?_
            refine lv_iload hx hb dX12_renew_285 (lv_at hl 7 rfl) ?_
            refine lv_iadd hx hb dX12_renew_287 ?_
            refine lv_aload_n hx hb dX12_renew_288 rfl (lv_at hl 0 rfl) ?_
            refine fg_86 hx hb hts hown hK hP dX12_renew_289 ?_
            refine lv_iload hx hb dX12_renew_292 (lv_at hl 6 rfl) ?_
            refine lv_iload hx hb dX12_renew_294 (lv_at hl 7 rfl) ?_
            refine lv_iadd hx hb dX12_renew_296 ?_
            obtain ⟨v_2, hv_2, h⟩ := ob h
            refine ag_86 hx hb hK hP hv_2 dX12_renew_297 ?_
            obtain ⟨cs_3, hv_3, h⟩ := ob h
            refine ap_103 hx hb hK hP hD hS hv_3 dX12_renew_298 (fun H locs hP hD hS => ?_)
            refine lv_iinc (v := u7 + 1) (lv' := [(7, .int (u7 + 1)), (0, .ref h0), (1, .int u1), (2, .int u2), (3, .int u3), (4, .int u4), (5, .int u5), (6, .int u6)]) hx hb dX12_renew_299 hl (k := 7) rfl rfl (by decide) rfl (fun ls hl => ?_)
            refine lv_goto (tgt := 171) hx hb dX12_renew_302 (by decide) ?_
            exact ih_171 cs_3 u1 u2 u3 u4 u5 u6 (u7 + 1) h _ _ _ hP hD hS (lv_sub hl [1, 2, 3, 4, 5, 6, 7, 0] rfl)
          have B_215 : ∀ (cs1 : RS) (u1 : Int32) (u2 : Int32) (u3 : Int32) (u4 : Int32) (u5 : Int32) (u6 : Int32) (u7 : Int32) (y0 : Int64) (y1 : Int32), m_renew_b215 F (m_renew_L121 F lf_121) (m_renew_L171 F (m_renew_L121 F lf_121) lf_171) cs1 u1 u2 u3 u4 u5 u6 u7 y0 y1 = some cs9 → ∀ (H : Heap) (locs : List Loc) (ls : Array Slot), va_P (dC, dI) vwCl (mW cB cI cJ cZ h0 a cs1) H → va_D A (mW cB cI cJ cZ h0 a cs1) → va_S A s.heap H locs → lv_has ls 8 [(0, .ref h0), (1, .int u1), (2, .int u2), (3, .int u3), (4, .int u4), (5, .int u5), (6, .int u6), (7, .int u7)] → W p l e (headSpec (wsOf yX12_renew cX12_renew 8 none) ({ frames := 605, cells := 0, slots := 0, locals := 60 * (605) } : Room)).room s m ([.ref h0, .int x1] : List Value).toArray below meth c H locs 0 0 (MQ below (va_Qv (fun (_ : Unit) => True) (fun _ t_ => va_P (dC, dI) vwCl (mW cB cI cJ cZ h0 a cs9) t_.heap ∧ va_D A (mW cB cI cJ cZ h0 a cs9)) A) ([.ref h0, .int x1] : List Value).toArray s 0 0 A) (F0 m 215 ls [.long y0, .int y1, .ref (a 105)]) := by
            intro cs1 u1 u2 u3 u4 u5 u6 u7 y0 y1 h H locs ls hP hD hS hl
            unfold m_renew_b215 at h
            obtain ⟨cs_4, hv_4, h⟩ := ob h
            refine ap_105 hx hb hK hP hD hS hv_4 dX12_renew_215 (fun H locs hP hD hS => ?_)
            refine lv_aload_n hx hb dX12_renew_216 rfl (lv_at hl 0 rfl) ?_
            refine fg_106 hx hb hts hown hK hP dX12_renew_217 ?_
            refine lv_iload_n hx hb dX12_renew_220 rfl (lv_at hl 3 rfl) ?_
            refine lv_iload hx hb dX12_renew_221 (lv_at hl 4 rfl) ?_
            refine lv_imul hx hb dX12_renew_223 ?_
            refine lv_iload hx hb dX12_renew_224 (lv_at hl 7 rfl) ?_
            refine lv_iadd hx hb dX12_renew_226 ?_
            refine lv_aload_n hx hb dX12_renew_227 rfl (lv_at hl 0 rfl) ?_
            refine fg_86 hx hb hts hown hK hP dX12_renew_228 ?_
            refine lv_iload hx hb dX12_renew_231 (lv_at hl 5 rfl) ?_
            refine lv_iload hx hb dX12_renew_233 (lv_at hl 7 rfl) ?_
            refine lv_iadd hx hb dX12_renew_235 ?_
            obtain ⟨v_5, hv_5, h⟩ := ob h
            refine ag_86 hx hb hK hP hv_5 dX12_renew_236 ?_
            obtain ⟨cs_6, hv_6, h⟩ := ob h
            refine ap_106 hx hb hK hP hD hS hv_6 dX12_renew_237 (fun H locs hP hD hS => ?_)
            refine lv_aload_n hx hb dX12_renew_238 rfl (lv_at hl 0 rfl) ?_
            refine fg_102 hx hb hts hown hK hP dX12_renew_239 ?_
            refine lv_iload_n hx hb dX12_renew_242 rfl (lv_at hl 3 rfl) ?_
            refine lv_iload hx hb dX12_renew_243 (lv_at hl 4 rfl) ?_
            refine lv_imul hx hb dX12_renew_245 ?_
            refine lv_iload hx hb dX12_renew_246 (lv_at hl 7 rfl) ?_
            refine lv_iadd hx hb dX12_renew_248 ?_
            refine lv_aload_n hx hb dX12_renew_249 rfl (lv_at hl 0 rfl) ?_
            refine fg_86 hx hb hts hown hK hP dX12_renew_250 ?_
            refine lv_iload hx hb dX12_renew_253 (lv_at hl 6 rfl) ?_
            refine lv_iload hx hb dX12_renew_255 (lv_at hl 7 rfl) ?_
            refine lv_iadd hx hb dX12_renew_257 ?_
            obtain ⟨v_7, hv_7, h⟩ := ob h
            refine ag_86 hx hb hK hP hv_7 dX12_renew_258 ?_
            refine lv_if_eq (tgt := 266) hx hb dX12_renew_259 (by decide) (fun c_8 => ?_) (fun c_8 => ?_)
            · skip
              replace h := (if_pos c_8).symm.trans h
              refine lv_aload_n hx hb dX12_renew_266 rfl (lv_at hl 0 rfl) ?_
              refine fg_85 hx hb hts hown hK hP dX12_renew_267 ?_
              refine lv_iload hx hb dX12_renew_270 (lv_at hl 6 rfl) ?_
              refine lv_iload hx hb dX12_renew_272 (lv_at hl 7 rfl) ?_
              refine lv_iadd hx hb dX12_renew_274 ?_
              obtain ⟨v_9, hv_9, h⟩ := ob h
              refine ag_85 hx hb hK hP hv_9 dX12_renew_275 ?_
              exact B_276 cs_6 u1 u2 u3 u4 u5 u6 u7 v_9 ((u3 * u4) + u7) h _ _ _ hP hD hS (lv_sub hl [0, 1, 2, 3, 4, 5, 6, 7] rfl)
            · skip
              replace h := (if_neg c_8).symm.trans h
              refine lv_lconst (v := 0) hx hb dX12_renew_262 (by decide) ?_
              refine lv_goto (tgt := 276) hx hb dX12_renew_263 (by decide) ?_
              exact B_276 cs_6 u1 u2 u3 u4 u5 u6 u7 0 ((u3 * u4) + u7) h _ _ _ hP hD hS (lv_sub hl [0, 1, 2, 3, 4, 5, 6, 7] rfl)
          intro cs1 u1 u2 u3 u4 u5 u6 u7 h H locs ls hP hD hS hl
          rw [m_renew_L171] at h
          refine lv_iload hx hb dX12_renew_171 (lv_at hl 7 rfl) ?_
          refine lv_iload_n hx hb dX12_renew_173 rfl (lv_at hl 3 rfl) ?_
          refine lv_icmp_ge (tgt := 305) hx hb dX12_renew_174 (by decide) (fun c_10 => ?_) (fun c_10 => ?_)
          · skip
            replace h := (if_pos c_10).symm.trans h
            refine lv_iinc (v := u4 + 1) (lv' := [(4, .int (u4 + 1)), (0, .ref h0), (1, .int u1), (2, .int u2), (3, .int u3), (5, .int u5), (6, .int u6), (7, .int u7)]) hx hb dX12_renew_305 hl (k := 4) rfl rfl (by decide) rfl (fun ls hl => ?_)
            refine lv_goto (tgt := 121) hx hb dX12_renew_308 (by decide) ?_
            exact ih_121 cs1 u1 u2 u3 (u4 + 1) h _ _ _ hP hD hS (lv_sub hl [1, 2, 3, 4, 0] rfl)
          · skip
            replace h := (if_neg c_10).symm.trans h
            refine lv_aload_n hx hb dX12_renew_177 rfl (lv_at hl 0 rfl) ?_
            refine fg_105 hx hb hts hown hK hP dX12_renew_178 ?_
            refine lv_iload_n hx hb dX12_renew_181 rfl (lv_at hl 3 rfl) ?_
            refine lv_iload hx hb dX12_renew_182 (lv_at hl 4 rfl) ?_
            refine lv_imul hx hb dX12_renew_184 ?_
            refine lv_iload hx hb dX12_renew_185 (lv_at hl 7 rfl) ?_
            refine lv_iadd hx hb dX12_renew_187 ?_
            refine lv_aload_n hx hb dX12_renew_188 rfl (lv_at hl 0 rfl) ?_
            refine fg_86 hx hb hts hown hK hP dX12_renew_189 ?_
            refine lv_iload hx hb dX12_renew_192 (lv_at hl 5 rfl) ?_
            refine lv_iload hx hb dX12_renew_194 (lv_at hl 7 rfl) ?_
            refine lv_iadd hx hb dX12_renew_196 ?_
            obtain ⟨v_11, hv_11, h⟩ := ob h
            refine ag_86 hx hb hK hP hv_11 dX12_renew_197 ?_
            refine lv_if_eq (tgt := 205) hx hb dX12_renew_198 (by decide) (fun c_12 => ?_) (fun c_12 => ?_)
            · skip
              replace h := (if_pos c_12).symm.trans h
              refine lv_aload_n hx hb dX12_renew_205 rfl (lv_at hl 0 rfl) ?_
              refine fg_85 hx hb hts hown hK hP dX12_renew_206 ?_
              refine lv_iload hx hb dX12_renew_209 (lv_at hl 5 rfl) ?_
              refine lv_iload hx hb dX12_renew_211 (lv_at hl 7 rfl) ?_
              refine lv_iadd hx hb dX12_renew_213 ?_
              obtain ⟨v_13, hv_13, h⟩ := ob h
              refine ag_85 hx hb hK hP hv_13 dX12_renew_214 ?_
              exact B_215 cs1 u1 u2 u3 u4 u5 u6 u7 v_13 ((u3 * u4) + u7) h _ _ _ hP hD hS (lv_sub hl [0, 1, 2, 3, 4, 5, 6, 7] rfl)
            · skip
              replace h := (if_neg c_12).symm.trans h
              refine lv_lconst (v := 0) hx hb dX12_renew_201 (by decide) ?_
              refine lv_goto (tgt := 215) hx hb dX12_renew_202 (by decide) ?_
              exact B_215 cs1 u1 u2 u3 u4 u5 u6 u7 0 ((u3 * u4) + u7) h _ _ _ hP hD hS (lv_sub hl [0, 1, 2, 3, 4, 5, 6, 7] rfl)
      have B_166 : ∀ (cs1 : RS) (u1 : Int32) (u2 : Int32) (u3 : Int32) (u4 : Int32) (u5 : Int32) (y0 : Int32), m_renew_b166 F (m_renew_L121 F lf_121) cs1 u1 u2 u3 u4 u5 y0 = some cs9 → ∀ (H : Heap) (locs : List Loc) (ls : Array Slot), va_P (dC, dI) vwCl (mW cB cI cJ cZ h0 a cs1) H → va_D A (mW cB cI cJ cZ h0 a cs1) → va_S A s.heap H locs → lv_has ls 8 [(0, .ref h0), (1, .int u1), (2, .int u2), (3, .int u3), (4, .int u4), (5, .int u5)] → W p l e (headSpec (wsOf yX12_renew cX12_renew 8 none) ({ frames := 605, cells := 0, slots := 0, locals := 60 * (605) } : Room)).room s m ([.ref h0, .int x1] : List Value).toArray below meth c H locs 0 0 (MQ below (va_Qv (fun (_ : Unit) => True) (fun _ t_ => va_P (dC, dI) vwCl (mW cB cI cJ cZ h0 a cs9) t_.heap ∧ va_D A (mW cB cI cJ cZ h0 a cs9)) A) ([.ref h0, .int x1] : List Value).toArray s 0 0 A) (F0 m 166 ls [.int y0]) := by
        intro cs1 u1 u2 u3 u4 u5 y0 h H locs ls hP hD hS hl
        unfold m_renew_b166 at h
        refine lv_istore (lv' := [(6, .int y0), (0, .ref h0), (1, .int u1), (2, .int u2), (3, .int u3), (4, .int u4), (5, .int u5)]) hx hb dX12_renew_166 hl (by decide) rfl (fun ls hl => ?_)
        refine lv_iconst (v := 0) hx hb dX12_renew_168 (by decide) ?_
        refine lv_istore (lv' := [(7, .int 0), (6, .int y0), (0, .ref h0), (1, .int u1), (2, .int u2), (3, .int u3), (4, .int u4), (5, .int u5)]) hx hb dX12_renew_169 hl (by decide) rfl (fun ls hl => ?_)
        exact L_171 F cs1 u1 u2 u3 u4 u5 y0 0 h _ _ _ hP hD hS (lv_sub hl [2, 3, 4, 5, 6, 7, 1, 0] rfl)
      intro cs1 u1 u2 u3 u4 h H locs ls hP hD hS hl
      rw [m_renew_L121] at h
      refine lv_iload hx hb dX12_renew_121 (lv_at hl 4 rfl) ?_
      refine lv_aload_n hx hb dX12_renew_123 rfl (lv_at hl 0 rfl) ?_
      refine fg_100 hx hb hts hown hK hP dX12_renew_124 ?_
      refine lv_icmp_ge (tgt := 311) hx hb dX12_renew_127 (by decide) (fun c_14 => ?_) (fun c_14 => ?_)
      · skip
        replace h := (if_pos c_14).symm.trans h
        refine lv_aload_n hx hb dX12_renew_311 rfl (lv_at hl 0 rfl) ?_
        refine lv_iconst (v := 0) hx hb dX12_renew_312 (by decide) ?_
        refine fp_110 hx hb hts hown hK hP hD hS dX12_renew_313 (fun H locs hP hD hS => ?_)
        refine lv_iload_n hx hb dX12_renew_316 rfl (lv_at hl 1 rfl) ?_
        refine lv_if_eq (tgt := 330) hx hb dX12_renew_317 (by decide) (fun c_15 => ?_) (fun c_15 => ?_)
        · skip
          replace h := (if_pos c_15).symm.trans h
          exact B_330 (setF cs1 110 0) h _ _ _ hP hD hS (lv_sub hl [] rfl)
        · skip
          replace h := (if_neg c_15).symm.trans h
          refine lv_aload_n hx hb dX12_renew_320 rfl (lv_at hl 0 rfl) ?_
          refine lv_iconst (v := 0) hx hb dX12_renew_321 (by decide) ?_
          obtain ⟨cs_16, hv_16, h⟩ := ob h
          refine calV (As := [.int 0]) hx hb hml hts hown hK hP hD hS hA hZ (s_differ l dC dI cB cI cJ cZ h0 a K V fz F (setF cs1 110 0) 0 cs_16 hv_16) (cw_differ hts (fr := 2) (Nat.le_of_ble_eq_true rfl) (Nat.le_of_ble_eq_true rfl)) rfl hl.1 (Nat.le_of_ble_eq_true rfl) ⟨Nat.zero_le _, Nat.zero_le _⟩ dX12_renew_322 (fun H locs hP hD hS => ?_)
          refine lv_aload_n hx hb dX12_renew_325 rfl (lv_at hl 0 rfl) ?_
          refine lv_iconst (v := 1) hx hb dX12_renew_326 (by decide) ?_
          obtain ⟨cs_17, hv_17, h⟩ := ob h
          refine calV (As := [.int 1]) hx hb hml hts hown hK hP hD hS hA hZ (s_differ l dC dI cB cI cJ cZ h0 a K V fz F cs_16 1 cs_17 hv_17) (cw_differ hts (fr := 2) (Nat.le_of_ble_eq_true rfl) (Nat.le_of_ble_eq_true rfl)) rfl hl.1 (Nat.le_of_ble_eq_true rfl) ⟨Nat.zero_le _, Nat.zero_le _⟩ dX12_renew_327 (fun H locs hP hD hS => ?_)
          exact B_330 cs_17 h _ _ _ hP hD hS (lv_sub hl [] rfl)
      · skip
        replace h := (if_neg c_14).symm.trans h
        refine lv_aload_n hx hb dX12_renew_130 rfl (lv_at hl 0 rfl) ?_
        refine lv_iload_n hx hb dX12_renew_131 rfl (lv_at hl 2 rfl) ?_
        refine lv_aload_n hx hb dX12_renew_132 rfl (lv_at hl 0 rfl) ?_
        refine fg_114 hx hb hts hown hK hP dX12_renew_133 ?_
        refine lv_iload hx hb dX12_renew_136 (lv_at hl 4 rfl) ?_
        obtain ⟨v_18, hv_18, h⟩ := ob h
        refine ag_114 hx hb hK hP hv_18 dX12_renew_138 ?_
        obtain ⟨v_19, hv_19, h⟩ := ob h
        refine calI (As := [.int u2, .int v_18]) hx hb hml hts hown hK hP hD hS hA hZ (s_rowAt l dC dI cB cI cJ cZ h0 a K V fz F cs1 u2 v_18 v_19 hv_19) (cw_rowAt hts (fr := 0) (Nat.le_of_ble_eq_true rfl) (Nat.le_of_ble_eq_true rfl)) rfl hl.1 (Nat.le_of_ble_eq_true rfl) ⟨Nat.zero_le _, Nat.zero_le _⟩ dX12_renew_139 (fun H locs hP hD hS => ?_)
        refine lv_istore (lv' := [(5, .int v_19), (0, .ref h0), (1, .int u1), (2, .int u2), (3, .int u3), (4, .int u4)]) hx hb dX12_renew_142 hl (by decide) rfl (fun ls hl => ?_)
        refine lv_aload_n hx hb dX12_renew_144 rfl (lv_at hl 1 rfl) ?_
        refine fg_65 hx hb hts hown hK hP dX12_renew_145 ?_
        refine lv_iconst (v := 0) hx hb dX12_renew_148 (by decide) ?_
        obtain ⟨v_20, hv_20, h⟩ := ob h
        refine ag_65 hx hb hK hP hv_20 dX12_renew_149 ?_
        refine lv_iconst (v := (-1)) hx hb dX12_renew_150 (by decide) ?_
        refine lv_icmp_ne (tgt := 159) hx hb dX12_renew_151 (by decide) (fun c_21 => ?_) (fun c_21 => ?_)
        · skip
          replace h := (if_neg c_21).symm.trans h
          refine lv_aload_n hx hb dX12_renew_159 rfl (lv_at hl 1 rfl) ?_
          refine lv_iload_n hx hb dX12_renew_160 rfl (lv_at hl 3 rfl) ?_
          refine lv_iload hx hb dX12_renew_161 (lv_at hl 5 rfl) ?_
          obtain ⟨v_22, hv_22, h⟩ := ob h
          refine calI (As := [.int u2, .int u4]) hx hb hml hts hown hK hP hD hS hA hZ (s_rowAt l dC dI cB cI cJ cZ h0 a K V fz F cs1 u2 u4 v_22 hv_22) (cw_rowAt hts (fr := 0) (Nat.le_of_ble_eq_true rfl) (Nat.le_of_ble_eq_true rfl)) rfl hl.1 (Nat.le_of_ble_eq_true rfl) ⟨Nat.zero_le _, Nat.zero_le _⟩ dX12_renew_163 (fun H locs hP hD hS => ?_)
          exact B_166 cs1 u1 u2 u3 u4 v_19 v_22 h _ _ _ hP hD hS (lv_sub hl [1, 2, 3, 4, 5, 0] rfl)
        · skip
          replace h := (if_pos c_21).symm.trans h
          refine lv_iload hx hb dX12_renew_154 (lv_at hl 0 rfl) ?_
          refine lv_goto (tgt := 166) hx hb dX12_renew_156 (by decide) ?_
          exact B_166 cs1 u1 u2 u3 u4 v_19 v_19 h _ _ _ hP hD hS (lv_sub hl [1, 2, 3, 4, 5, 0] rfl)
  have L_42 : ∀ (lf_42 : Nat), ∀ (cs1 : RS) (u1 : Int32) (u2 : Int32) (u3 : Int32) (u4 : Int32), m_renew_L42 F lf_42 cs1 u1 u2 u3 u4 = some cs9 → ∀ (H : Heap) (locs : List Loc) (ls : Array Slot), va_P (dC, dI) vwCl (mW cB cI cJ cZ h0 a cs1) H → va_D A (mW cB cI cJ cZ h0 a cs1) → va_S A s.heap H locs → lv_has ls 8 [(0, .ref h0), (1, .int u1), (2, .int u2), (3, .int u3), (4, .int u4)] → W p l e (headSpec (wsOf yX12_renew cX12_renew 8 none) ({ frames := 605, cells := 0, slots := 0, locals := 60 * (605) } : Room)).room s m ([.ref h0, .int x1] : List Value).toArray below meth c H locs 0 0 (MQ below (va_Qv (fun (_ : Unit) => True) (fun _ t_ => va_P (dC, dI) vwCl (mW cB cI cJ cZ h0 a cs9) t_.heap ∧ va_D A (mW cB cI cJ cZ h0 a cs9)) A) ([.ref h0, .int x1] : List Value).toArray s 0 0 A) (F0 m 42 ls []) := by
    intro lf_42
    induction lf_42 with
    | zero => intro cs1 u1 u2 u3 u4 h; cases (show (none : Option RS) = _ from h)
    | succ lf_42 ih_42 =>
      intro cs1 u1 u2 u3 u4 h H locs ls hP hD hS hl
      rw [m_renew_L42] at h
      refine lv_iload hx hb dX12_renew_42 (lv_at hl 4 rfl) ?_
      refine lv_aload_n hx hb dX12_renew_44 rfl (lv_at hl 0 rfl) ?_
      refine fg_104 hx hb hts hown hK hP dX12_renew_45 ?_
      refine lv_aload_n hx hb dX12_renew_48 rfl (lv_at hl 0 rfl) ?_
      refine fg_101 hx hb hts hown hK hP dX12_renew_49 ?_
      refine lv_imul hx hb dX12_renew_52 ?_
      refine lv_icmp_ge (tgt := 90) hx hb dX12_renew_53 (by decide) (fun c_23 => ?_) (fun c_23 => ?_)
      · skip
        replace h := (if_pos c_23).symm.trans h
        refine lv_aload_n hx hb dX12_renew_90 rfl (lv_at hl 0 rfl) ?_
        refine lv_iload_n hx hb dX12_renew_91 rfl (lv_at hl 2 rfl) ?_
        obtain ⟨cs_24, hv_24, h⟩ := ob h
        refine calV (As := [.int u2]) hx hb hml hts hown hK hP hD hS hA hZ (s_sort l dC dI cB cI cJ cZ h0 a K V fz F cs1 u2 cs_24 hv_24) (cw_sort hts (fr := 2) (Nat.le_of_ble_eq_true rfl) (Nat.le_of_ble_eq_true rfl)) rfl hl.1 (Nat.le_of_ble_eq_true rfl) ⟨Nat.zero_le _, Nat.zero_le _⟩ dX12_renew_92 (fun H locs hP hD hS => ?_)
        refine lv_aload_n hx hb dX12_renew_95 rfl (lv_at hl 0 rfl) ?_
        refine lv_aload_n hx hb dX12_renew_96 rfl (lv_at hl 0 rfl) ?_
        refine fg_89 hx hb hts hown hK hP dX12_renew_97 ?_
        refine lv_iload_n hx hb dX12_renew_100 rfl (lv_at hl 2 rfl) ?_
        obtain ⟨v_25, hv_25, h⟩ := ob h
        refine ag_89 hx hb hK hP hv_25 dX12_renew_101 ?_
        refine fp_100 hx hb hts hown hK hP hD hS dX12_renew_102 (fun H locs hP hD hS => ?_)
        refine lv_aload_n hx hb dX12_renew_105 rfl (lv_at hl 0 rfl) ?_
        refine lv_iload_n hx hb dX12_renew_106 rfl (lv_at hl 3 rfl) ?_
        refine fp_101 hx hb hts hown hK hP hD hS dX12_renew_107 (fun H locs hP hD hS => ?_)
        refine lv_aload_n hx hb dX12_renew_110 rfl (lv_at hl 0 rfl) ?_
        refine lv_aload_n hx hb dX12_renew_111 rfl (lv_at hl 0 rfl) ?_
        refine fg_100 hx hb hts hown hK hP dX12_renew_112 ?_
        refine fp_104 hx hb hts hown hK hP hD hS dX12_renew_115 (fun H locs hP hD hS => ?_)
        refine lv_iconst (v := 0) hx hb dX12_renew_118 (by decide) ?_
        refine lv_istore (lv' := [(4, .int 0), (0, .ref h0), (1, .int u1), (2, .int u2), (3, .int u3)]) hx hb dX12_renew_119 hl (by decide) rfl (fun ls hl => ?_)
        exact L_121 F (setF (setF (setF cs_24 100 v_25) 101 u3) 104 ((setF (setF cs_24 100 v_25) 101 u3).1 100)) u1 u2 u3 0 h _ _ _ hP hD hS (lv_sub hl [1, 2, 3, 4, 0] rfl)
      · skip
        replace h := (if_neg c_23).symm.trans h
        refine lv_aload_n hx hb dX12_renew_56 rfl (lv_at hl 0 rfl) ?_
        refine fg_108 hx hb hts hown hK hP dX12_renew_57 ?_
        refine lv_iload hx hb dX12_renew_60 (lv_at hl 4 rfl) ?_
        refine lv_aload_n hx hb dX12_renew_62 rfl (lv_at hl 0 rfl) ?_
        refine fg_105 hx hb hts hown hK hP dX12_renew_63 ?_
        refine lv_iload hx hb dX12_renew_66 (lv_at hl 4 rfl) ?_
        obtain ⟨v_26, hv_26, h⟩ := ob h
        refine ag_105 hx hb hK hP hv_26 dX12_renew_68 ?_
        obtain ⟨cs_27, hv_27, h⟩ := ob h
        refine ap_108 hx hb hK hP hD hS hv_27 dX12_renew_69 (fun H locs hP hD hS => ?_)
        refine lv_aload_n hx hb dX12_renew_70 rfl (lv_at hl 0 rfl) ?_
        refine fg_109 hx hb hts hown hK hP dX12_renew_71 ?_
        refine lv_iload hx hb dX12_renew_74 (lv_at hl 4 rfl) ?_
        refine lv_aload_n hx hb dX12_renew_76 rfl (lv_at hl 0 rfl) ?_
        refine fg_106 hx hb hts hown hK hP dX12_renew_77 ?_
        refine lv_iload hx hb dX12_renew_80 (lv_at hl 4 rfl) ?_
        obtain ⟨v_28, hv_28, h⟩ := ob h
        refine ag_106 hx hb hK hP hv_28 dX12_renew_82 ?_
        obtain ⟨cs_29, hv_29, h⟩ := ob h
        refine ap_109 hx hb hK hP hD hS hv_29 dX12_renew_83 (fun H locs hP hD hS => ?_)
        refine lv_iinc (v := u4 + 1) (lv' := [(4, .int (u4 + 1)), (0, .ref h0), (1, .int u1), (2, .int u2), (3, .int u3)]) hx hb dX12_renew_84 hl (k := 4) rfl rfl (by decide) rfl (fun ls hl => ?_)
        refine lv_goto (tgt := 42) hx hb dX12_renew_87 (by decide) ?_
        exact ih_42 cs_29 u1 u2 u3 (u4 + 1) h _ _ _ hP hD hS (lv_sub hl [1, 2, 3, 4, 0] rfl)
  have h := hf
  unfold m_renew at h
  refine lv_aload_n hx hb dX12_renew_0 rfl (lv_at hl 0 rfl) ?_
  refine fg_81 hx hb hts hown hK hP dX12_renew_1 ?_
  refine lv_if_ne (tgt := 8) hx hb dX12_renew_4 (by decide) (fun c_30 => ?_) (fun c_30 => ?_)
  · skip
    replace h := (if_neg c_30).symm.trans h
    refine lv_aload_n hx hb dX12_renew_8 rfl (lv_at hl 0 rfl) ?_
    refine lv_iconst (v := 0) hx hb dX12_renew_9 (by decide) ?_
    refine fp_87 hx hb hts hown hK hP hD hS dX12_renew_10 (fun H locs hP hD hS => ?_)
    refine lv_aload_n hx hb dX12_renew_13 rfl (lv_at hl 0 rfl) ?_
    refine lv_iconst (v := 0) hx hb dX12_renew_14 (by decide) ?_
    refine fp_91 hx hb hts hown hK hP hD hS dX12_renew_15 (fun H locs hP hD hS => ?_)
    refine lv_aload_n hx hb dX12_renew_18 rfl (lv_at hl 0 rfl) ?_
    refine lv_iconst (v := 0) hx hb dX12_renew_19 (by decide) ?_
    obtain ⟨z_31, hv_31, h⟩ := ob h
    refine calI (As := [.int 0]) hx hb hml hts hown hK hP hD hS hA hZ (s_workQuery l dC dI cB cI cJ cZ h0 a K V fz F 300 (setF (setF cs 87 0) 91 0) 0 z_31.1 z_31.2 hv_31) (cw_workQuery hts (fr := 604) (Nat.le_of_ble_eq_true rfl) (Nat.le_of_ble_eq_true rfl)) rfl hl.1 (Nat.le_of_ble_eq_true rfl) ⟨Nat.zero_le _, Nat.zero_le _⟩ dX12_renew_20 (fun H locs hP hD hS => ?_)
    refine lv_istore_n (lv' := [(2, .int z_31.2), (0, .ref h0), (1, .int x1)]) hx hb dX12_renew_23 rfl hl (by decide) rfl (fun ls hl => ?_)
    refine lv_aload_n hx hb dX12_renew_24 rfl (lv_at hl 1 rfl) ?_
    refine fg_90 hx hb hts hown hK hP dX12_renew_25 ?_
    refine lv_iload_n hx hb dX12_renew_28 rfl (lv_at hl 0 rfl) ?_
    obtain ⟨v_32, hv_32, h⟩ := ob h
    refine ag_90 hx hb hK hP hv_32 dX12_renew_29 ?_
    refine lv_istore_n (lv' := [(3, .int v_32), (2, .int z_31.2), (0, .ref h0), (1, .int x1)]) hx hb dX12_renew_30 rfl hl (by decide) rfl (fun ls hl => ?_)
    refine lv_aload_n hx hb dX12_renew_31 rfl (lv_at hl 2 rfl) ?_
    refine lv_aload_n hx hb dX12_renew_32 rfl (lv_at hl 2 rfl) ?_
    refine fg_104 hx hb hts hown hK hP dX12_renew_33 ?_
    refine fp_107 hx hb hts hown hK hP hD hS dX12_renew_36 (fun H locs hP hD hS => ?_)
    refine lv_iconst (v := 0) hx hb dX12_renew_39 (by decide) ?_
    refine lv_istore (lv' := [(4, .int 0), (3, .int v_32), (2, .int z_31.2), (0, .ref h0), (1, .int x1)]) hx hb dX12_renew_40 hl (by decide) rfl (fun ls hl => ?_)
    exact L_42 F (setF z_31.1 107 (z_31.1.1 104)) x1 z_31.2 v_32 0 h _ _ _ hP hD hS (lv_sub hl [3, 4, 2, 1, 0] rfl)
  · skip
    replace h := (if_pos c_30).symm.trans h
    have e1 := Option.some.inj h
    rw [e1] at hP hD
    exact W.vret hx hb hr (fun t_ ht hW => ⟨⟨(), rfl, trivial, by rw [ht]; exact hP, hD⟩, hS.F ht⟩) hS.2.2 dX12_renew_7
theorem cw_renew {R : Room} {s : State} {args : Array Value} {y0 : MethodName} {c0 : ByteArray} {n0 : Nat} {r0 : Option FieldType} (hts : ∀ w ∈ wsOf y0 c0 n0 r0, w.before args s = true) {fr : Nat} (h1 : fr + 1 ≤ R.frames) (h2 : 8 + (8 + 11) + 60 * fr ≤ R.locals) : CallW R s args RX12 RX12 274 yX12_renew cX12_renew 8 none (wsOf yX12_renew cX12_renew 8 none) ({ frames := fr, cells := 0, slots := 0, locals := 60 * fr } : Room) 0 0 1 := cwV 1 hts (gd_all (in_V kw_2073 kw_2075 kw_99 kw_191 kc_X12_renew)) rfl rfl rfl (by decide +kernel) ⟨h1, h2⟩
