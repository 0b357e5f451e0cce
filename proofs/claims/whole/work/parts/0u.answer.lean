/-! the class, mirrored: what makes cells -/
theorem dX9_readOrder_0 : decode cX9_readOrder 0 = .ok (.new 68, 3) := by decide +kernel
theorem dX9_readOrder_3 : decode cX9_readOrder 3 = .ok (.dup, 1) := by decide +kernel
theorem dX9_readOrder_4 : decode cX9_readOrder 4 = .ok (.invokespecial 156, 3) := by decide +kernel
theorem dX9_readOrder_7 : decode cX9_readOrder 7 = .ok (.astore_n 2, 1) := by decide +kernel
theorem dX9_readOrder_8 : decode cX9_readOrder 8 = .ok (.aload_n 1, 1) := by decide +kernel
theorem dX9_readOrder_9 : decode cX9_readOrder 9 = .ok (.aload_n 2, 1) := by decide +kernel
theorem dX9_readOrder_10 : decode cX9_readOrder 10 = .ok (.putfield 157, 3) := by decide +kernel
theorem dX9_readOrder_13 : decode cX9_readOrder 13 = .ok (.aload_n 1, 1) := by decide +kernel
theorem dX9_readOrder_14 : decode cX9_readOrder 14 = .ok (.aload_n 0, 1) := by decide +kernel
theorem dX9_readOrder_15 : decode cX9_readOrder 15 = .ok (.invokevirtual 118, 3) := by decide +kernel
theorem dX9_readOrder_18 : decode cX9_readOrder 18 = .ok (.putfield 160, 3) := by decide +kernel
theorem dX9_readOrder_21 : decode cX9_readOrder 21 = .ok (.aload_n 0, 1) := by decide +kernel
theorem dX9_readOrder_22 : decode cX9_readOrder 22 = .ok (.bipush 14, 2) := by decide +kernel
theorem dX9_readOrder_24 : decode cX9_readOrder 24 = .ok (.invokevirtual 60, 3) := by decide +kernel
theorem dX9_readOrder_27 : decode cX9_readOrder 27 = .ok (.aload_n 0, 1) := by decide +kernel
theorem dX9_readOrder_28 : decode cX9_readOrder 28 = .ok (.bipush 8, 2) := by decide +kernel
theorem dX9_readOrder_30 : decode cX9_readOrder 30 = .ok (.invokevirtual 60, 3) := by decide +kernel
theorem dX9_readOrder_33 : decode cX9_readOrder 33 = .ok (.aload_n 0, 1) := by decide +kernel
theorem dX9_readOrder_34 : decode cX9_readOrder 34 = .ok (.iconst 0, 1) := by decide +kernel
theorem dX9_readOrder_35 : decode cX9_readOrder 35 = .ok (.putfield 163, 3) := by decide +kernel
theorem dX9_readOrder_38 : decode cX9_readOrder 38 = .ok (.iconst 1, 1) := by decide +kernel
theorem dX9_readOrder_39 : decode cX9_readOrder 39 = .ok (.istore_n 3, 1) := by decide +kernel
theorem dX9_readOrder_40 : decode cX9_readOrder 40 = .ok (.iconst 0, 1) := by decide +kernel
theorem dX9_readOrder_41 : decode cX9_readOrder 41 = .ok (.istore 4, 2) := by decide +kernel
theorem dX9_readOrder_43 : decode cX9_readOrder 43 = .ok (.iload 4, 2) := by decide +kernel
theorem dX9_readOrder_45 : decode cX9_readOrder 45 = .ok (.sipush 2000, 3) := by decide +kernel
theorem dX9_readOrder_48 : decode cX9_readOrder 48 = .ok (.if_icmp .ge 59, 3) := by decide +kernel
theorem dX9_readOrder_51 : decode cX9_readOrder 51 = .ok (.iload_n 3, 1) := by decide +kernel
theorem dX9_readOrder_52 : decode cX9_readOrder 52 = .ok (.ifCond .eq 55, 3) := by decide +kernel
theorem dX9_readOrder_55 : decode cX9_readOrder 55 = .ok (.aload_n 0, 1) := by decide +kernel
theorem dX9_readOrder_56 : decode cX9_readOrder 56 = .ok (.aload_n 2, 1) := by decide +kernel
theorem dX9_readOrder_57 : decode cX9_readOrder 57 = .ok (.invokevirtual 166, 3) := by decide +kernel
theorem dX9_readOrder_60 : decode cX9_readOrder 60 = .ok (.iconst 1, 1) := by decide +kernel
theorem dX9_readOrder_61 : decode cX9_readOrder 61 = .ok (.invokevirtual 170, 3) := by decide +kernel
theorem dX9_readOrder_64 : decode cX9_readOrder 64 = .ok (.aload_n 0, 1) := by decide +kernel
theorem dX9_readOrder_65 : decode cX9_readOrder 65 = .ok (.invokevirtual 174, 3) := by decide +kernel
theorem dX9_readOrder_68 : decode cX9_readOrder 68 = .ok (.istore 5, 2) := by decide +kernel
theorem dX9_readOrder_70 : decode cX9_readOrder 70 = .ok (.aload_n 2, 1) := by decide +kernel
theorem dX9_readOrder_71 : decode cX9_readOrder 71 = .ok (.iload 5, 2) := by decide +kernel
theorem dX9_readOrder_73 : decode cX9_readOrder 73 = .ok (.ldc2_w 177, 3) := by decide +kernel
theorem dX9_readOrder_76 : decode cX9_readOrder 76 = .ok (.aload_n 0, 1) := by decide +kernel
theorem dX9_readOrder_77 : decode cX9_readOrder 77 = .ok (.bipush 15, 2) := by decide +kernel
theorem dX9_readOrder_79 : decode cX9_readOrder 79 = .ok (.invokevirtual 48, 3) := by decide +kernel
theorem dX9_readOrder_82 : decode cX9_readOrder 82 = .ok (.ifCond .eq 7, 3) := by decide +kernel
theorem dX9_readOrder_85 : decode cX9_readOrder 85 = .ok (.iconst 1, 1) := by decide +kernel
theorem dX9_readOrder_86 : decode cX9_readOrder 86 = .ok (.goto 4, 3) := by decide +kernel
theorem dX9_readOrder_89 : decode cX9_readOrder 89 = .ok (.iconst 0, 1) := by decide +kernel
theorem dX9_readOrder_90 : decode cX9_readOrder 90 = .ok (.iconst 1, 1) := by decide +kernel
theorem dX9_readOrder_91 : decode cX9_readOrder 91 = .ok (.invokevirtual 179, 3) := by decide +kernel
theorem dX9_readOrder_94 : decode cX9_readOrder 94 = .ok (.aload_n 0, 1) := by decide +kernel
theorem dX9_readOrder_95 : decode cX9_readOrder 95 = .ok (.bipush 43, 2) := by decide +kernel
theorem dX9_readOrder_97 : decode cX9_readOrder 97 = .ok (.invokevirtual 48, 3) := by decide +kernel
theorem dX9_readOrder_100 : decode cX9_readOrder 100 = .ok (.istore_n 3, 1) := by decide +kernel
theorem dX9_readOrder_101 : decode cX9_readOrder 101 = .ok (.iinc 4 1, 3) := by decide +kernel
theorem dX9_readOrder_104 : decode cX9_readOrder 104 = .ok (.goto (-61), 3) := by decide +kernel
theorem dX9_readOrder_107 : decode cX9_readOrder 107 = .ok (.aload_n 0, 1) := by decide +kernel
theorem dX9_readOrder_108 : decode cX9_readOrder 108 = .ok (.bipush 16, 2) := by decide +kernel
theorem dX9_readOrder_110 : decode cX9_readOrder 110 = .ok (.invokevirtual 60, 3) := by decide +kernel
theorem dX9_readOrder_113 : decode cX9_readOrder 113 = .ok (.aload_n 1, 1) := by decide +kernel
theorem dX9_readOrder_114 : decode cX9_readOrder 114 = .ok (.aload_n 0, 1) := by decide +kernel
theorem dX9_readOrder_115 : decode cX9_readOrder 115 = .ok (.ldc2_w 182, 3) := by decide +kernel
theorem dX9_readOrder_118 : decode cX9_readOrder 118 = .ok (.invokevirtual 184, 3) := by decide +kernel
theorem dX9_readOrder_121 : decode cX9_readOrder 121 = .ok (.ldc2_w 182, 3) := by decide +kernel
theorem dX9_readOrder_124 : decode cX9_readOrder 124 = .ok (.invokestatic 188, 3) := by decide +kernel
theorem dX9_readOrder_127 : decode cX9_readOrder 127 = .ok (.l2i, 1) := by decide +kernel
theorem dX9_readOrder_128 : decode cX9_readOrder 128 = .ok (.putfield 191, 3) := by decide +kernel
theorem dX9_readOrder_131 : decode cX9_readOrder 131 = .ok (.return_, 1) := by decide +kernel
def c_X9_readOrder_b107 (F : Nat) (cs1 : CS) (u0 : Nat) (u1 : Nat) : Option CS := Option.bind (ckE cs1 10 u0) fun _ => Option.bind (c_X9_expect F cs1 u0 16) fun cs_1 => Option.bind (ckE cs_1 10 u0) fun _ => Option.bind (c_X9_readNumber F cs_1 u0 (100)) fun z_3 => Option.bind (c_J9_min_f86c9 F z_3.1 z_3.2 (100)) fun v_5 => Option.bind (pI z_3.1 4 132 u1 v_5.toInt32) fun cs_6 => some cs_6
def c_X9_readOrder_b90 (F : Nat) (rc43 : CS → Nat → Nat → Nat → Int32 → Int32 → Option CS) (cs1 : CS) (u0 : Nat) (u1 : Nat) (u2 : Nat) (u4 : Int32) (y0 : Int32) (y1 : Int64) (y2 : Int32) (y3 : Nat) : Option CS := Option.bind (ckE cs1 3 y3) fun _ => Option.bind (c_X2_add F cs1 y3 y2 y1 y0 1) fun cs_7 => Option.bind (ckE cs_7 10 u0) fun _ => Option.bind (c_X9_accept F cs_7 u0 43) fun z_9 => rc43 z_9.1 u0 u1 u2 z_9.2 (u4 + 1)
def c_X9_readOrder_L43 (F : Nat) : Nat → CS → Nat → Nat → Nat → Int32 → Int32 → Option CS
  | 0, _, _, _, _, _, _ => none
  | lf_43 + 1, cs1, u0, u1, u2, u3, u4 => if 2000 ≤ u4 then (c_X9_readOrder_b107 F cs1 u0 u1) else (if u3 = 0 then (c_X9_readOrder_b107 F cs1 u0 u1) else (Option.bind (ckE cs1 3 u2) fun _ => Option.bind (c_X2_isFull F cs1 u2) fun v_13 => Option.bind (ckE cs1 10 u0) fun _ => Option.bind (c_X9_refuseNinth F cs1 u0 v_13 1) fun cs_15 => Option.bind (ckE cs_15 10 u0) fun _ => Option.bind (c_X9_readExpr F 300 cs_15 u0) fun z_17 => Option.bind (ckE z_17.1 10 u0) fun _ => Option.bind (c_X9_accept F z_17.1 u0 15) fun z_19 => if z_19.2 = 0 then (c_X9_readOrder_b90 F (c_X9_readOrder_L43 F lf_43) z_19.1 u0 u1 u2 u4 0 (-1) z_17.2 u2) else (c_X9_readOrder_b90 F (c_X9_readOrder_L43 F lf_43) z_19.1 u0 u1 u2 u4 1 (-1) z_17.2 u2)))
def c_X9_readOrder_b7 (F : Nat) (cs1 : CS) (u0 : Nat) (u1 : Nat) (y0 : Nat) : Option CS := Option.bind (pR cs1 4 130 u1 (some y0)) fun cs_22 => Option.bind (ckE cs_22 10 u0) fun _ => Option.bind (c_X9_here F cs_22 u0) fun v_23 => Option.bind (pI cs_22 4 131 u1 v_23) fun cs_25 => Option.bind (ckE cs_25 10 u0) fun _ => Option.bind (c_X9_expect F cs_25 u0 14) fun cs_26 => Option.bind (ckE cs_26 10 u0) fun _ => Option.bind (c_X9_expect F cs_26 u0 8) fun cs_28 => Option.bind (pI cs_28 10 331 u0 0) fun cs_30 => c_X9_readOrder_L43 F F cs_30 u0 u1 y0 1 0
def c_X9_readOrder_b3 (F : Nat) (cs1 : CS) (u0 : Nat) (u1 : Nat) (y0 : Nat) : Option CS := Option.bind (c_X2_init F cs1 y0) fun cs_31 => c_X9_readOrder_b7 F cs_31 u0 u1 y0
def c_X9_readOrder (F : Nat) (cs : CS) (x0 : Nat) (x1 : Nat) : Option CS := Option.bind (nwO cs 3 5) fun cs_32 => c_X9_readOrder_b3 F cs_32 x0 x1 (kK cs)
theorem cw_X9_X9_readOrder {R : Room} {s : State} {args : Array Value} {y0 : MethodName} {c0 : ByteArray} {n0 : Nat} {r0 : Option FieldType} (hts : ∀ w ∈ wsOf y0 c0 n0 r0, w.before args s = true) {fr mc ms : Nat} (h1 : fr + 1 ≤ R.frames) (h2 : 8 + (6 + 11) + 60 * fr ≤ R.locals) : CallW R s args RX9 RX9 152 yX9_readOrder cX9_readOrder 6 none (wsOf yX9_readOrder cX9_readOrder 6 none) ({ frames := fr, cells := mc, slots := ms, locals := 60 * fr } : Room) mc ms 1 := cwV 1 hts (gd_all (in_V kw_1135 kw_1137 kw_44 kw_193 kc_X9_readOrder)) rfl rfl rfl (by decide +kernel) ⟨h1, h2⟩
theorem mo_c_X9_readOrder_b107 (F : Nat) (cs1 : CS) (u0 : Nat) (u1 : Nat) (cs9 : CS) (h : c_X9_readOrder_b107 F cs1 u0 u1 = some cs9) : kK cs1 ≤ kK cs9 ∧ kM cs1 ≤ kM cs9 := by
  unfold c_X9_readOrder_b107 at h
  replace h := ob h; obtain ⟨w_33, hw_33, h⟩ := h
  replace h := ob h; obtain ⟨cs_32, hv_32, h⟩ := h
  obtain ⟨qk_32, qm_32⟩ := k_of (mo_c_X9_expect F cs1 u0 16 cs_32 hv_32)
  replace h := ob h; obtain ⟨w_35, hw_35, h⟩ := h
  replace h := ob h; obtain ⟨z_34, hv_34, h⟩ := h
  obtain ⟨qk_34, qm_34⟩ := k_of (mo_c_X9_readNumber F cs_32 u0 (100) z_34.1 z_34.2 hv_34)
  replace h := ob h; obtain ⟨v_36, hv_36, h⟩ := h
  replace h := ob h; obtain ⟨cs_37, hv_37, h⟩ := h
  obtain ⟨qk_37, qm_37⟩ := pI_k hv_37
  have h9 := Option.some.inj h
  have k9 := congrArg kK h9; have m9 := congrArg kM h9; exact ⟨by omega, by omega⟩
theorem mo_c_X9_readOrder_b90 (F : Nat) (rc43 : CS → Nat → Nat → Nat → Int32 → Int32 → Option CS) (hrc43 : ∀ (cs1 : CS) (u0 : Nat) (u1 : Nat) (u2 : Nat) (u3 : Int32) (u4 : Int32) (cs9 : CS), rc43 cs1 u0 u1 u2 u3 u4 = some cs9 → kK cs1 ≤ kK cs9 ∧ kM cs1 ≤ kM cs9) (cs1 : CS) (u0 : Nat) (u1 : Nat) (u2 : Nat) (u4 : Int32) (y0 : Int32) (y1 : Int64) (y2 : Int32) (y3 : Nat) (cs9 : CS) (h : c_X9_readOrder_b90 F rc43 cs1 u0 u1 u2 u4 y0 y1 y2 y3 = some cs9) : kK cs1 ≤ kK cs9 ∧ kM cs1 ≤ kM cs9 := by
  unfold c_X9_readOrder_b90 at h
  replace h := ob h; obtain ⟨w_33, hw_33, h⟩ := h
  replace h := ob h; obtain ⟨cs_32, hv_32, h⟩ := h
  obtain ⟨qk_32, qm_32⟩ := k_of (mo_c_X2_add F cs1 y3 y2 y1 y0 1 cs_32 hv_32)
  replace h := ob h; obtain ⟨w_35, hw_35, h⟩ := h
  replace h := ob h; obtain ⟨z_34, hv_34, h⟩ := h
  obtain ⟨qk_34, qm_34⟩ := k_of (mo_c_X9_accept F cs_32 u0 43 z_34.1 z_34.2 hv_34)
  obtain ⟨k9, m9⟩ := hrc43 z_34.1 u0 u1 u2 z_34.2 (u4 + 1) cs9 h
  exact ⟨by omega, by omega⟩
theorem mo_c_X9_readOrder_L43 (F : Nat) : ∀ (lf_43 : Nat) (cs1 : CS) (u0 : Nat) (u1 : Nat) (u2 : Nat) (u3 : Int32) (u4 : Int32) (cs9 : CS), c_X9_readOrder_L43 F lf_43 cs1 u0 u1 u2 u3 u4 = some cs9 → kK cs1 ≤ kK cs9 ∧ kM cs1 ≤ kM cs9 := by
  intro lf_43
  induction lf_43 with
  | zero => intro cs1 u0 u1 u2 u3 u4 cs9 h; cases (show (none : Option CS) = _ from h)
  | succ lf_43 ih_43 =>
    intro cs1 u0 u1 u2 u3 u4 cs9 h
    rw [c_X9_readOrder_L43] at h
    by_cases c_32 : 2000 ≤ u4
    · skip
      replace h := (if_pos c_32).symm.trans h
      obtain ⟨k9, m9⟩ := mo_c_X9_readOrder_b107 F cs1 u0 u1 cs9 h
      exact ⟨by omega, by omega⟩
    · skip
      replace h := (if_neg c_32).symm.trans h
      by_cases c_33 : u3 = 0
      · skip
        replace h := (if_pos c_33).symm.trans h
        obtain ⟨k9, m9⟩ := mo_c_X9_readOrder_b107 F cs1 u0 u1 cs9 h
        exact ⟨by omega, by omega⟩
      · skip
        replace h := (if_neg c_33).symm.trans h
        replace h := ob h; obtain ⟨w_35, hw_35, h⟩ := h
        replace h := ob h; obtain ⟨v_34, hv_34, h⟩ := h
        replace h := ob h; obtain ⟨w_37, hw_37, h⟩ := h
        replace h := ob h; obtain ⟨cs_36, hv_36, h⟩ := h
        obtain ⟨qk_36, qm_36⟩ := k_of (mo_c_X9_refuseNinth F cs1 u0 v_34 1 cs_36 hv_36)
        replace h := ob h; obtain ⟨w_39, hw_39, h⟩ := h
        replace h := ob h; obtain ⟨z_38, hv_38, h⟩ := h
        obtain ⟨qk_38, qm_38⟩ := k_of (mo_c_X9_readExpr F 300 cs_36 u0 z_38.1 z_38.2 hv_38)
        replace h := ob h; obtain ⟨w_41, hw_41, h⟩ := h
        replace h := ob h; obtain ⟨z_40, hv_40, h⟩ := h
        obtain ⟨qk_40, qm_40⟩ := k_of (mo_c_X9_accept F z_38.1 u0 15 z_40.1 z_40.2 hv_40)
        by_cases c_42 : z_40.2 = 0
        · skip
          replace h := (if_pos c_42).symm.trans h
          obtain ⟨k9, m9⟩ := mo_c_X9_readOrder_b90 F (c_X9_readOrder_L43 F lf_43) ih_43 z_40.1 u0 u1 u2 u4 0 (-1) z_38.2 u2 cs9 h
          exact ⟨by omega, by omega⟩
        · skip
          replace h := (if_neg c_42).symm.trans h
          obtain ⟨k9, m9⟩ := mo_c_X9_readOrder_b90 F (c_X9_readOrder_L43 F lf_43) ih_43 z_40.1 u0 u1 u2 u4 1 (-1) z_38.2 u2 cs9 h
          exact ⟨by omega, by omega⟩
theorem mo_c_X9_readOrder_b7 (F : Nat) (cs1 : CS) (u0 : Nat) (u1 : Nat) (y0 : Nat) (cs9 : CS) (h : c_X9_readOrder_b7 F cs1 u0 u1 y0 = some cs9) : kK cs1 ≤ kK cs9 ∧ kM cs1 ≤ kM cs9 := by
  unfold c_X9_readOrder_b7 at h
  replace h := ob h; obtain ⟨cs_32, hv_32, h⟩ := h
  obtain ⟨qk_32, qm_32⟩ := pR_k hv_32
  replace h := ob h; obtain ⟨w_34, hw_34, h⟩ := h
  replace h := ob h; obtain ⟨v_33, hv_33, h⟩ := h
  replace h := ob h; obtain ⟨cs_35, hv_35, h⟩ := h
  obtain ⟨qk_35, qm_35⟩ := pI_k hv_35
  replace h := ob h; obtain ⟨w_37, hw_37, h⟩ := h
  replace h := ob h; obtain ⟨cs_36, hv_36, h⟩ := h
  obtain ⟨qk_36, qm_36⟩ := k_of (mo_c_X9_expect F cs_35 u0 14 cs_36 hv_36)
  replace h := ob h; obtain ⟨w_39, hw_39, h⟩ := h
  replace h := ob h; obtain ⟨cs_38, hv_38, h⟩ := h
  obtain ⟨qk_38, qm_38⟩ := k_of (mo_c_X9_expect F cs_36 u0 8 cs_38 hv_38)
  replace h := ob h; obtain ⟨cs_40, hv_40, h⟩ := h
  obtain ⟨qk_40, qm_40⟩ := pI_k hv_40
  obtain ⟨k9, m9⟩ := mo_c_X9_readOrder_L43 F F cs_40 u0 u1 y0 1 0 cs9 h
  exact ⟨by omega, by omega⟩
theorem mo_c_X9_readOrder_b3 (F : Nat) (cs1 : CS) (u0 : Nat) (u1 : Nat) (y0 : Nat) (cs9 : CS) (h : c_X9_readOrder_b3 F cs1 u0 u1 y0 = some cs9) : kK cs1 ≤ kK cs9 ∧ kM cs1 ≤ kM cs9 := by
  unfold c_X9_readOrder_b3 at h
  replace h := ob h; obtain ⟨cs_32, hv_32, h⟩ := h
  obtain ⟨qk_32, qm_32⟩ := mo_c_X2_init F cs1 y0 cs_32 hv_32
  obtain ⟨k9, m9⟩ := mo_c_X9_readOrder_b7 F cs_32 u0 u1 y0 cs9 h
  exact ⟨by omega, by omega⟩
theorem mo_c_X9_readOrder (F : Nat) (cs : CS) (x0 : Nat) (x1 : Nat) (cs9 : CS) (h : c_X9_readOrder F cs x0 x1 = some cs9) : kK cs ≤ kK cs9 ∧ kM cs ≤ kM cs9 := by
  unfold c_X9_readOrder at h
  replace h := ob h; obtain ⟨cs_32, hv_32, h⟩ := h
  obtain ⟨qk_32, qm_32⟩ := nwO_k hv_32
  obtain ⟨k9, m9⟩ := mo_c_X9_readOrder_b3 F cs_32 x0 x1 (kK cs) cs9 h
  exact ⟨by omega, by omega⟩
set_option maxHeartbeats 4000000 in
set_option maxRecDepth 100000 in
theorem sa_X9_readOrder (l : Launch) (dC : Nat → ClassId) (dI : Nat → Nat → Nat) (cB cI cJ cZ cS cO : ClassId) (b : Nat) (K V : Nat → Nat) (fz : Value) (F : Nat) (cs : CS) (x0 : Nat) (x1 : Nat) (cs9 : CS) (hf : c_X9_readOrder F cs x0 x1 = some cs9) : oaV l dC dI cB cI cJ cZ cS cO b K V fz yX9_readOrder (wsOf yX9_readOrder cX9_readOrder 6 none) (304) [.ref (b + x0), .ref (b + x1)] cs cs9 := by
  obtain ⟨kb9, mb9⟩ := mo_c_X9_readOrder F cs x0 x1 cs9 hf
  refine ⟨⟨kb9, mb9⟩, ?_⟩
  refine Met.ofW (cc := cX9_readOrder) (maxL := 6) (ret := none) (by decide) rfl ?_
  intro p e s m args below meth c s₁ B hml hv
  obtain ⟨rfl, hsz, hP, hK, hD0, hZ⟩ := hv
  have hx := B.exec
  have hb := B.bytes
  have hr := B.returns
  have hts := atoms_spec (ws := (wsOf yX9_readOrder cX9_readOrder 6 none)) B.pre
  have hown : s.vm.findClass RX9 = some m.cls := findClass_of_methodNamed B.named
  have hlocks := B.notSynchronized
  have hD := hD0.self (sz := b + kK cs)
  generalize hAe : va_A (cW cB cI cJ cZ cS cO b cs) (b + kK cs) = A at hD hZ ⊢
  have hA : ∀ q : Nat, s.heap.size ≤ q → A q := fun q h => by rw [← hAe]; exact Or.inr (by omega)
  have hS : va_S A s.heap s.heap [] := va_S.rf
  have hG : va_S A s.heap s.heap [] := va_S.rf
  have hgz : s.heap.size = b + kK cs := hsz
  have hl := lv_entry ([.ref (b + x0), .ref (b + x1)]) (n := 6) (Nat.le_of_ble_eq_true rfl)
  rw [lg_entry_eq]
  generalize (lg_sl ([.ref (b + x0), .ref (b + x1)]) ++ List.replicate (6 - (lg_sl ([.ref (b + x0), .ref (b + x1)])).length) Slot.unset).toArray = ls at hl ⊢
  have hl : lv_has ls 6 [(0, .ref (b + x0)), (1, .ref (b + x1))] := hl
  have B_107 : ∀ (cs1 : CS) (u0 : Nat) (u1 : Nat), c_X9_readOrder_b107 F cs1 u0 u1 = some cs9 → kK cs ≤ kK cs1 → kM cs ≤ kM cs1 → ∀ (Gh H : Heap) (locs : List Loc) (ls : Array Slot), va_P (dC, dI) vwCl (cW cB cI cJ cZ cS cO b cs1) H → va_D A (cW cB cI cJ cZ cS cO b cs1) → va_S A s.heap Gh [] → Gh.size = b + kK cs1 → va_S A Gh H locs → lv_has ls 6 [(0, .ref (b + u0)), (1, .ref (b + u1))] → W p l e (headSpec (wsOf yX9_readOrder cX9_readOrder 6 none) ({ frames := 304, cells := kK cs9 - kK cs, slots := kM cs9 - kM cs, locals := 60 * (304) } : Room)).room s m ([.ref (b + x0), .ref (b + x1)] : List Value).toArray below meth c H locs (kK cs1 - kK cs) (kM cs1 - kM cs) (MQ below (va_Qv (fun (_ : Unit) => True) (fun _ t_ => va_P (dC, dI) vwCl (cW cB cI cJ cZ cS cO b cs9) t_.heap ∧ va_D A (cW cB cI cJ cZ cS cO b cs9) ∧ b + kK cs9 ≤ t_.heap.size) A) ([.ref (b + x0), .ref (b + x1)] : List Value).toArray s (kK cs9 - kK cs) (kM cs9 - kM cs) A) (F0 m 107 ls []) := by
    intro cs1 u0 u1 h hmk hmm Gh H locs ls hP hD hG hgz hS hl
    obtain ⟨kb9, mb9⟩ := mo_c_X9_readOrder_b107 F cs1 u0 u1 cs9 h
    unfold c_X9_readOrder_b107 at h
    refine lv_aload_n hx hb dX9_readOrder_107 rfl (lv_at hl 0 rfl) ?_
    refine lv_bipush (v := 16) hx hb dX9_readOrder_108 (by decide) ?_
    replace h := ob h; obtain ⟨w_2, hw_2, h⟩ := h
    replace h := ob h; obtain ⟨cs_1, hv_1, h⟩ := h
    obtain ⟨qk_1, qm_1⟩ := k_of (mo_c_X9_expect F cs1 u0 16 cs_1 hv_1)
    refine cbvV (As := [.int 16]) hx hb hml hts hown hK hP hD hS hG hA (by omega) (by omega) hZ (X := 10) (by decide) rfl (ckE_some hw_2) (sc_X9_expect l dC dI cB cI cJ cZ cS cO b K V fz F cs1 u0 16 cs_1 hv_1) (cw_X9_X9_expect hts (fr := 1) (Nat.le_of_ble_eq_true rfl) (Nat.le_of_ble_eq_true rfl)) rfl hl.1 (Nat.le_of_ble_eq_true rfl) ⟨by show kK cs1 - kK cs ≤ kK cs9 - kK cs; omega, by show kM cs1 - kM cs ≤ kM cs9 - kM cs; omega⟩ dX9_readOrder_110 (fun H locs hP hD hG hgz hS => ?_)
    refine lv_aload_n hx hb dX9_readOrder_113 rfl (lv_at hl 1 rfl) ?_
    refine lv_aload_n hx hb dX9_readOrder_114 rfl (lv_at hl 0 rfl) ?_
    refine lv_ldc2 hx hb hown (hts _ (List.mem_cons_of_mem _ kw_1141)) dX9_readOrder_115 ?_
    replace h := ob h; obtain ⟨w_4, hw_4, h⟩ := h
    replace h := ob h; obtain ⟨z_3, hv_3, h⟩ := h
    obtain ⟨qk_3, qm_3⟩ := k_of (mo_c_X9_readNumber F cs_1 u0 (100) z_3.1 z_3.2 hv_3)
    refine cbvL (As := [.long (100)]) hx hb hml hts hown hK hP hD hS hG hA (by omega) (by omega) hZ (X := 10) (by decide) rfl (ckE_some hw_4) (sc_X9_readNumber l dC dI cB cI cJ cZ cS cO b K V fz F cs_1 u0 (100) z_3.1 z_3.2 hv_3) (cw_X9_X9_readNumber hts (fr := 2) (Nat.le_of_ble_eq_true rfl) (Nat.le_of_ble_eq_true rfl)) rfl hl.1 (Nat.le_of_ble_eq_true rfl) ⟨by show kK cs1 - kK cs ≤ kK cs9 - kK cs; omega, by show kM cs1 - kM cs ≤ kM cs9 - kM cs; omega⟩ dX9_readOrder_118 (fun H locs hP hD hG hgz hS => ?_)
    refine lv_ldc2 hx hb hown (hts _ (List.mem_cons_of_mem _ kw_1141)) dX9_readOrder_121 ?_
    replace h := ob h; obtain ⟨v_5, hv_5, h⟩ := h
    refine cbsL (As := [.long z_3.2, .long (100)]) hx hb hml hts hown hK hP hD hS hG hA (by omega) (by omega) hZ (sc_J9_min_f86c9 l dC dI cB cI cJ cZ cS cO b K V fz F z_3.1 z_3.2 (100) v_5 hv_5) (cw_X9_J9_min_f86c9 hts (fr := 0) (Nat.le_of_ble_eq_true rfl) (Nat.le_of_ble_eq_true rfl)) rfl hl.1 (Nat.le_of_ble_eq_true rfl) ⟨by show kK cs1 - kK cs ≤ kK cs9 - kK cs; omega, by show kM cs1 - kM cs ≤ kM cs9 - kM cs; omega⟩ dX9_readOrder_124 (fun H locs hP hD hG hgz hS => ?_)
    refine lv_l2i hx hb dX9_readOrder_127 rfl ?_
    replace h := ob h; obtain ⟨cs_6, hv_6, h⟩ := h
    obtain ⟨qk_6, qm_6⟩ := pI_k hv_6
    refine fp_X9_191 hx hb hts hown hK hP hD hS hv_6 dX9_readOrder_128 (fun H locs hP hD hS => ?_)
    have e1 := Option.some.inj h
    rw [e1] at hP hD
    have e3 := congrArg kK e1
    have e4 := congrArg kM e1
    refine W_cnt (c2 := kK cs9 - kK cs) (n2 := kM cs9 - kM cs) (by omega) (by omega) ?_
    exact W.vret hx hb hr (fun t_ ht hW => ⟨⟨(), rfl, trivial, by rw [ht]; exact hP, hD, by rw [ht]; have := hS.1; omega⟩, (hG.comp hS).F ht⟩) (hG.comp hS).2.2 dX9_readOrder_131
  have L_43 : ∀ (lf_43 : Nat), ∀ (cs1 : CS) (u0 : Nat) (u1 : Nat) (u2 : Nat) (u3 : Int32) (u4 : Int32), c_X9_readOrder_L43 F lf_43 cs1 u0 u1 u2 u3 u4 = some cs9 → kK cs ≤ kK cs1 → kM cs ≤ kM cs1 → ∀ (Gh H : Heap) (locs : List Loc) (ls : Array Slot), va_P (dC, dI) vwCl (cW cB cI cJ cZ cS cO b cs1) H → va_D A (cW cB cI cJ cZ cS cO b cs1) → va_S A s.heap Gh [] → Gh.size = b + kK cs1 → va_S A Gh H locs → lv_has ls 6 [(0, .ref (b + u0)), (1, .ref (b + u1)), (2, .ref (b + u2)), (3, .int u3), (4, .int u4)] → W p l e (headSpec (wsOf yX9_readOrder cX9_readOrder 6 none) ({ frames := 304, cells := kK cs9 - kK cs, slots := kM cs9 - kM cs, locals := 60 * (304) } : Room)).room s m ([.ref (b + x0), .ref (b + x1)] : List Value).toArray below meth c H locs (kK cs1 - kK cs) (kM cs1 - kM cs) (MQ below (va_Qv (fun (_ : Unit) => True) (fun _ t_ => va_P (dC, dI) vwCl (cW cB cI cJ cZ cS cO b cs9) t_.heap ∧ va_D A (cW cB cI cJ cZ cS cO b cs9) ∧ b + kK cs9 ≤ t_.heap.size) A) ([.ref (b + x0), .ref (b + x1)] : List Value).toArray s (kK cs9 - kK cs) (kM cs9 - kM cs) A) (F0 m 43 ls []) := by
    intro lf_43
    induction lf_43 with
    | zero => intro cs1 u0 u1 u2 u3 u4 h; cases (show (none : Option CS) = _ from h)
    | succ lf_43 ih_43 =>
      have B_90 : ∀ (cs1 : CS) (u0 : Nat) (u1 : Nat) (u2 : Nat) (u4 : Int32) (y0 : Int32) (y1 : Int64) (y2 : Int32) (y3 : Nat), c_X9_readOrder_b90 F (c_X9_readOrder_L43 F lf_43) cs1 u0 u1 u2 u4 y0 y1 y2 y3 = some cs9 → kK cs ≤ kK cs1 → kM cs ≤ kM cs1 → ∀ (Gh H : Heap) (locs : List Loc) (ls : Array Slot), va_P (dC, dI) vwCl (cW cB cI cJ cZ cS cO b cs1) H → va_D A (cW cB cI cJ cZ cS cO b cs1) → va_S A s.heap Gh [] → Gh.size = b + kK cs1 → va_S A Gh H locs → lv_has ls 6 [(0, .ref (b + u0)), (1, .ref (b + u1)), (2, .ref (b + u2)), (4, .int u4)] → W p l e (headSpec (wsOf yX9_readOrder cX9_readOrder 6 none) ({ frames := 304, cells := kK cs9 - kK cs, slots := kM cs9 - kM cs, locals := 60 * (304) } : Room)).room s m ([.ref (b + x0), .ref (b + x1)] : List Value).toArray below meth c H locs (kK cs1 - kK cs) (kM cs1 - kM cs) (MQ below (va_Qv (fun (_ : Unit) => True) (fun _ t_ => va_P (dC, dI) vwCl (cW cB cI cJ cZ cS cO b cs9) t_.heap ∧ va_D A (cW cB cI cJ cZ cS cO b cs9) ∧ b + kK cs9 ≤ t_.heap.size) A) ([.ref (b + x0), .ref (b + x1)] : List Value).toArray s (kK cs9 - kK cs) (kM cs9 - kM cs) A) (F0 m 90 ls [.int y0, .long y1, .int y2, .ref (b + y3)]) := by
        intro cs1 u0 u1 u2 u4 y0 y1 y2 y3 h hmk hmm Gh H locs ls hP hD hG hgz hS hl
        obtain ⟨kb9, mb9⟩ := mo_c_X9_readOrder_b90 F (c_X9_readOrder_L43 F lf_43) (mo_c_X9_readOrder_L43 F lf_43) cs1 u0 u1 u2 u4 y0 y1 y2 y3 cs9 h
        unfold c_X9_readOrder_b90 at h
        refine lv_iconst (v := 1) hx hb dX9_readOrder_90 (by decide) ?_
        replace h := ob h; obtain ⟨w_8, hw_8, h⟩ := h
        replace h := ob h; obtain ⟨cs_7, hv_7, h⟩ := h
        obtain ⟨qk_7, qm_7⟩ := k_of (mo_c_X2_add F cs1 y3 y2 y1 y0 1 cs_7 hv_7)
        refine cbvV (As := [.int y2, .long y1, .int y0, .int 1]) hx hb hml hts hown hK hP hD hS hG hA (by omega) (by omega) hZ (X := 3) (by decide) rfl (ckE_some hw_8) (sc_X2_add l dC dI cB cI cJ cZ cS cO b K V fz F cs1 y3 y2 y1 y0 1 cs_7 hv_7) (cw_X9_X2_add hts (fr := 1) (Nat.le_of_ble_eq_true rfl) (Nat.le_of_ble_eq_true rfl)) rfl hl.1 (Nat.le_of_ble_eq_true rfl) ⟨by show kK cs1 - kK cs ≤ kK cs9 - kK cs; omega, by show kM cs1 - kM cs ≤ kM cs9 - kM cs; omega⟩ dX9_readOrder_91 (fun H locs hP hD hG hgz hS => ?_)
        refine lv_aload_n hx hb dX9_readOrder_94 rfl (lv_at hl 0 rfl) ?_
        refine lv_bipush (v := 43) hx hb dX9_readOrder_95 (by decide) ?_
        replace h := ob h; obtain ⟨w_10, hw_10, h⟩ := h
        replace h := ob h; obtain ⟨z_9, hv_9, h⟩ := h
        obtain ⟨qk_9, qm_9⟩ := k_of (mo_c_X9_accept F cs_7 u0 43 z_9.1 z_9.2 hv_9)
        refine cbvI (As := [.int 43]) hx hb hml hts hown hK hP hD hS hG hA (by omega) (by omega) hZ (X := 10) (by decide) rfl (ckE_some hw_10) (sc_X9_accept l dC dI cB cI cJ cZ cS cO b K V fz F cs_7 u0 43 z_9.1 z_9.2 hv_9) (cw_X9_X9_accept hts (fr := 1) (Nat.le_of_ble_eq_true rfl) (Nat.le_of_ble_eq_true rfl)) rfl hl.1 (Nat.le_of_ble_eq_true rfl) ⟨by show kK cs1 - kK cs ≤ kK cs9 - kK cs; omega, by show kM cs1 - kM cs ≤ kM cs9 - kM cs; omega⟩ dX9_readOrder_97 (fun H locs hP hD hG hgz hS => ?_)
        refine lv_istore_n (lv' := [(3, .int z_9.2), (0, .ref (b + u0)), (1, .ref (b + u1)), (2, .ref (b + u2)), (4, .int u4)]) hx hb dX9_readOrder_100 rfl hl (by decide) rfl (fun ls hl => ?_)
        refine lv_iinc (v := u4 + 1) (lv' := [(4, .int (u4 + 1)), (3, .int z_9.2), (0, .ref (b + u0)), (1, .ref (b + u1)), (2, .ref (b + u2))]) hx hb dX9_readOrder_101 hl (k := 4) rfl rfl (by decide) rfl (fun ls hl => ?_)
        refine lv_goto (tgt := 43) hx hb dX9_readOrder_104 (by decide) ?_
        refine W_cnt (c2 := kK z_9.1 - kK cs) (n2 := kM z_9.1 - kM cs) (by omega) (by omega) ?_
        exact ih_43 z_9.1 u0 u1 u2 z_9.2 (u4 + 1) h (by omega) (by omega) _ _ _ _ hP hD hG (by omega) hS (lv_sub hl [2, 3, 4, 1, 0] rfl)
      intro cs1 u0 u1 u2 u3 u4 h hmk hmm Gh H locs ls hP hD hG hgz hS hl
      obtain ⟨kb9, mb9⟩ := mo_c_X9_readOrder_L43 F (lf_43 + 1) cs1 u0 u1 u2 u3 u4 cs9 h
      rw [c_X9_readOrder_L43] at h
      refine lv_iload hx hb dX9_readOrder_43 (lv_at hl 4 rfl) ?_
      refine lv_sipush (v := 2000) hx hb dX9_readOrder_45 (by decide) ?_
      refine lv_icmp_ge (tgt := 107) hx hb dX9_readOrder_48 (by decide) (fun c_11 => ?_) (fun c_11 => ?_)
      · skip
        replace h := (if_pos c_11).symm.trans h
        refine W_cnt (c2 := kK cs1 - kK cs) (n2 := kM cs1 - kM cs) (by omega) (by omega) ?_
        exact B_107 cs1 u0 u1 h (by omega) (by omega) _ _ _ _ hP hD hG (by omega) hS (lv_sub hl [0, 1] rfl)
      · skip
        replace h := (if_neg c_11).symm.trans h
        refine lv_iload_n hx hb dX9_readOrder_51 rfl (lv_at hl 3 rfl) ?_
        refine lv_if_eq (tgt := 107) hx hb dX9_readOrder_52 (by decide) (fun c_12 => ?_) (fun c_12 => ?_)
        · skip
          replace h := (if_pos c_12).symm.trans h
          refine W_cnt (c2 := kK cs1 - kK cs) (n2 := kM cs1 - kM cs) (by omega) (by omega) ?_
          exact B_107 cs1 u0 u1 h (by omega) (by omega) _ _ _ _ hP hD hG (by omega) hS (lv_sub hl [0, 1] rfl)
        · skip
          replace h := (if_neg c_12).symm.trans h
          refine lv_aload_n hx hb dX9_readOrder_55 rfl (lv_at hl 0 rfl) ?_
          refine lv_aload_n hx hb dX9_readOrder_56 rfl (lv_at hl 2 rfl) ?_
          replace h := ob h; obtain ⟨w_14, hw_14, h⟩ := h
          replace h := ob h; obtain ⟨v_13, hv_13, h⟩ := h
          refine cbvI (As := []) hx hb hml hts hown hK hP hD hS hG hA (by omega) (by omega) hZ (X := 3) (by decide) rfl (ckE_some hw_14) (sc_X2_isFull l dC dI cB cI cJ cZ cS cO b K V fz F cs1 u2 v_13 hv_13) (cw_X9_X2_isFull hts (fr := 0) (Nat.le_of_ble_eq_true rfl) (Nat.le_of_ble_eq_true rfl)) rfl hl.1 (Nat.le_of_ble_eq_true rfl) ⟨by show kK cs1 - kK cs ≤ kK cs9 - kK cs; omega, by show kM cs1 - kM cs ≤ kM cs9 - kM cs; omega⟩ dX9_readOrder_57 (fun H locs hP hD hG hgz hS => ?_)
          refine lv_iconst (v := 1) hx hb dX9_readOrder_60 (by decide) ?_
          replace h := ob h; obtain ⟨w_16, hw_16, h⟩ := h
          replace h := ob h; obtain ⟨cs_15, hv_15, h⟩ := h
          obtain ⟨qk_15, qm_15⟩ := k_of (mo_c_X9_refuseNinth F cs1 u0 v_13 1 cs_15 hv_15)
          refine cbvV (As := [.int v_13, .int 1]) hx hb hml hts hown hK hP hD hS hG hA (by omega) (by omega) hZ (X := 10) (by decide) rfl (ckE_some hw_16) (sc_X9_refuseNinth l dC dI cB cI cJ cZ cS cO b K V fz F cs1 u0 v_13 1 cs_15 hv_15) (cw_X9_X9_refuseNinth hts (fr := 1) (Nat.le_of_ble_eq_true rfl) (Nat.le_of_ble_eq_true rfl)) rfl hl.1 (Nat.le_of_ble_eq_true rfl) ⟨by show kK cs1 - kK cs ≤ kK cs9 - kK cs; omega, by show kM cs1 - kM cs ≤ kM cs9 - kM cs; omega⟩ dX9_readOrder_61 (fun H locs hP hD hG hgz hS => ?_)
          refine lv_aload_n hx hb dX9_readOrder_64 rfl (lv_at hl 0 rfl) ?_
          replace h := ob h; obtain ⟨w_18, hw_18, h⟩ := h
          replace h := ob h; obtain ⟨z_17, hv_17, h⟩ := h
          obtain ⟨qk_17, qm_17⟩ := k_of (mo_c_X9_readExpr F 300 cs_15 u0 z_17.1 z_17.2 hv_17)
          refine cbvI (As := []) hx hb hml hts hown hK hP hD hS hG hA (by omega) (by omega) hZ (X := 10) (by decide) rfl (ckE_some hw_18) (sc_X9_readExpr l dC dI cB cI cJ cZ cS cO b K V fz F 300 cs_15 u0 z_17.1 z_17.2 hv_17) (cw_X9_X9_readExpr hts (fr := 303) (Nat.le_of_ble_eq_true rfl) (Nat.le_of_ble_eq_true rfl)) rfl hl.1 (Nat.le_of_ble_eq_true rfl) ⟨by show kK cs1 - kK cs ≤ kK cs9 - kK cs; omega, by show kM cs1 - kM cs ≤ kM cs9 - kM cs; omega⟩ dX9_readOrder_65 (fun H locs hP hD hG hgz hS => ?_)
          refine lv_istore (lv' := [(5, .int z_17.2), (0, .ref (b + u0)), (1, .ref (b + u1)), (2, .ref (b + u2)), (3, .int u3), (4, .int u4)]) hx hb dX9_readOrder_68 hl (by decide) rfl (fun ls hl => ?_)
          refine lv_aload_n hx hb dX9_readOrder_70 rfl (lv_at hl 3 rfl) ?_
          refine lv_iload hx hb dX9_readOrder_71 (lv_at hl 0 rfl) ?_
          refine lv_ldc2 hx hb hown (hts _ (List.mem_cons_of_mem _ kw_1004)) dX9_readOrder_73 ?_
          refine lv_aload_n hx hb dX9_readOrder_76 rfl (lv_at hl 1 rfl) ?_
          refine lv_bipush (v := 15) hx hb dX9_readOrder_77 (by decide) ?_
          replace h := ob h; obtain ⟨w_20, hw_20, h⟩ := h
          replace h := ob h; obtain ⟨z_19, hv_19, h⟩ := h
          obtain ⟨qk_19, qm_19⟩ := k_of (mo_c_X9_accept F z_17.1 u0 15 z_19.1 z_19.2 hv_19)
          refine cbvI (As := [.int 15]) hx hb hml hts hown hK hP hD hS hG hA (by omega) (by omega) hZ (X := 10) (by decide) rfl (ckE_some hw_20) (sc_X9_accept l dC dI cB cI cJ cZ cS cO b K V fz F z_17.1 u0 15 z_19.1 z_19.2 hv_19) (cw_X9_X9_accept hts (fr := 1) (Nat.le_of_ble_eq_true rfl) (Nat.le_of_ble_eq_true rfl)) rfl hl.1 (Nat.le_of_ble_eq_true rfl) ⟨by show kK cs1 - kK cs ≤ kK cs9 - kK cs; omega, by show kM cs1 - kM cs ≤ kM cs9 - kM cs; omega⟩ dX9_readOrder_79 (fun H locs hP hD hG hgz hS => ?_)
          refine lv_if_eq (tgt := 89) hx hb dX9_readOrder_82 (by decide) (fun c_21 => ?_) (fun c_21 => ?_)
          · skip
            replace h := (if_pos c_21).symm.trans h
            refine lv_iconst (v := 0) hx hb dX9_readOrder_89 (by decide) ?_
            refine W_cnt (c2 := kK z_19.1 - kK cs) (n2 := kM z_19.1 - kM cs) (by omega) (by omega) ?_
            exact B_90 z_19.1 u0 u1 u2 u4 0 (-1) z_17.2 u2 h (by omega) (by omega) _ _ _ _ hP hD hG (by omega) hS (lv_sub hl [1, 2, 3, 5] rfl)
          · skip
            replace h := (if_neg c_21).symm.trans h
            refine lv_iconst (v := 1) hx hb dX9_readOrder_85 (by decide) ?_
            refine lv_goto (tgt := 90) hx hb dX9_readOrder_86 (by decide) ?_
            refine W_cnt (c2 := kK z_19.1 - kK cs) (n2 := kM z_19.1 - kM cs) (by omega) (by omega) ?_
            exact B_90 z_19.1 u0 u1 u2 u4 1 (-1) z_17.2 u2 h (by omega) (by omega) _ _ _ _ hP hD hG (by omega) hS (lv_sub hl [1, 2, 3, 5] rfl)
  have B_7 : ∀ (cs1 : CS) (u0 : Nat) (u1 : Nat) (y0 : Nat), c_X9_readOrder_b7 F cs1 u0 u1 y0 = some cs9 → kK cs ≤ kK cs1 → kM cs ≤ kM cs1 → ∀ (Gh H : Heap) (locs : List Loc) (ls : Array Slot), va_P (dC, dI) vwCl (cW cB cI cJ cZ cS cO b cs1) H → va_D A (cW cB cI cJ cZ cS cO b cs1) → va_S A s.heap Gh [] → Gh.size = b + kK cs1 → va_S A Gh H locs → lv_has ls 6 [(0, .ref (b + u0)), (1, .ref (b + u1))] → W p l e (headSpec (wsOf yX9_readOrder cX9_readOrder 6 none) ({ frames := 304, cells := kK cs9 - kK cs, slots := kM cs9 - kM cs, locals := 60 * (304) } : Room)).room s m ([.ref (b + x0), .ref (b + x1)] : List Value).toArray below meth c H locs (kK cs1 - kK cs) (kM cs1 - kM cs) (MQ below (va_Qv (fun (_ : Unit) => True) (fun _ t_ => va_P (dC, dI) vwCl (cW cB cI cJ cZ cS cO b cs9) t_.heap ∧ va_D A (cW cB cI cJ cZ cS cO b cs9) ∧ b + kK cs9 ≤ t_.heap.size) A) ([.ref (b + x0), .ref (b + x1)] : List Value).toArray s (kK cs9 - kK cs) (kM cs9 - kM cs) A) (F0 m 7 ls [.ref (b + y0)]) := by
    intro cs1 u0 u1 y0 h hmk hmm Gh H locs ls hP hD hG hgz hS hl
    obtain ⟨kb9, mb9⟩ := mo_c_X9_readOrder_b7 F cs1 u0 u1 y0 cs9 h
    unfold c_X9_readOrder_b7 at h
    refine lv_astore_n (lv' := [(2, .ref (b + y0)), (0, .ref (b + u0)), (1, .ref (b + u1))]) hx hb dX9_readOrder_7 rfl hl (by decide) rfl (fun ls hl => ?_)
    refine lv_aload_n hx hb dX9_readOrder_8 rfl (lv_at hl 2 rfl) ?_
    refine lv_aload_n hx hb dX9_readOrder_9 rfl (lv_at hl 0 rfl) ?_
    replace h := ob h; obtain ⟨cs_22, hv_22, h⟩ := h
    obtain ⟨qk_22, qm_22⟩ := pR_k hv_22
    refine fp_X9_157 (v := (some y0)) hx hb hts hown hK hP hD hS hv_22 dX9_readOrder_10 (fun H locs hP hD hS => ?_)
    refine lv_aload_n hx hb dX9_readOrder_13 rfl (lv_at hl 2 rfl) ?_
    refine lv_aload_n hx hb dX9_readOrder_14 rfl (lv_at hl 1 rfl) ?_
    replace h := ob h; obtain ⟨w_24, hw_24, h⟩ := h
    replace h := ob h; obtain ⟨v_23, hv_23, h⟩ := h
    refine cbvI (As := []) hx hb hml hts hown hK hP hD hS hG hA (by omega) (by omega) hZ (X := 10) (by decide) rfl (ckE_some hw_24) (sc_X9_here l dC dI cB cI cJ cZ cS cO b K V fz F cs_22 u0 v_23 hv_23) (cw_X9_X9_here hts (fr := 0) (Nat.le_of_ble_eq_true rfl) (Nat.le_of_ble_eq_true rfl)) rfl hl.1 (Nat.le_of_ble_eq_true rfl) ⟨by show kK cs1 - kK cs ≤ kK cs9 - kK cs; omega, by show kM cs1 - kM cs ≤ kM cs9 - kM cs; omega⟩ dX9_readOrder_15 (fun H locs hP hD hG hgz hS => ?_)
    replace h := ob h; obtain ⟨cs_25, hv_25, h⟩ := h
    obtain ⟨qk_25, qm_25⟩ := pI_k hv_25
    refine fp_X9_160 hx hb hts hown hK hP hD hS hv_25 dX9_readOrder_18 (fun H locs hP hD hS => ?_)
    refine lv_aload_n hx hb dX9_readOrder_21 rfl (lv_at hl 1 rfl) ?_
    refine lv_bipush (v := 14) hx hb dX9_readOrder_22 (by decide) ?_
    replace h := ob h; obtain ⟨w_27, hw_27, h⟩ := h
    replace h := ob h; obtain ⟨cs_26, hv_26, h⟩ := h
    obtain ⟨qk_26, qm_26⟩ := k_of (mo_c_X9_expect F cs_25 u0 14 cs_26 hv_26)
    refine cbvV (As := [.int 14]) hx hb hml hts hown hK hP hD hS hG hA (by omega) (by omega) hZ (X := 10) (by decide) rfl (ckE_some hw_27) (sc_X9_expect l dC dI cB cI cJ cZ cS cO b K V fz F cs_25 u0 14 cs_26 hv_26) (cw_X9_X9_expect hts (fr := 1) (Nat.le_of_ble_eq_true rfl) (Nat.le_of_ble_eq_true rfl)) rfl hl.1 (Nat.le_of_ble_eq_true rfl) ⟨by show kK cs1 - kK cs ≤ kK cs9 - kK cs; omega, by show kM cs1 - kM cs ≤ kM cs9 - kM cs; omega⟩ dX9_readOrder_24 (fun H locs hP hD hG hgz hS => ?_)
    refine lv_aload_n hx hb dX9_readOrder_27 rfl (lv_at hl 1 rfl) ?_
    refine lv_bipush (v := 8) hx hb dX9_readOrder_28 (by decide) ?_
    replace h := ob h; obtain ⟨w_29, hw_29, h⟩ := h
    replace h := ob h; obtain ⟨cs_28, hv_28, h⟩ := h
    obtain ⟨qk_28, qm_28⟩ := k_of (mo_c_X9_expect F cs_26 u0 8 cs_28 hv_28)
    refine cbvV (As := [.int 8]) hx hb hml hts hown hK hP hD hS hG hA (by omega) (by omega) hZ (X := 10) (by decide) rfl (ckE_some hw_29) (sc_X9_expect l dC dI cB cI cJ cZ cS cO b K V fz F cs_26 u0 8 cs_28 hv_28) (cw_X9_X9_expect hts (fr := 1) (Nat.le_of_ble_eq_true rfl) (Nat.le_of_ble_eq_true rfl)) rfl hl.1 (Nat.le_of_ble_eq_true rfl) ⟨by show kK cs1 - kK cs ≤ kK cs9 - kK cs; omega, by show kM cs1 - kM cs ≤ kM cs9 - kM cs; omega⟩ dX9_readOrder_30 (fun H locs hP hD hG hgz hS => ?_)
    refine lv_aload_n hx hb dX9_readOrder_33 rfl (lv_at hl 1 rfl) ?_
    refine lv_iconst (v := 0) hx hb dX9_readOrder_34 (by decide) ?_
    replace h := ob h; obtain ⟨cs_30, hv_30, h⟩ := h
    obtain ⟨qk_30, qm_30⟩ := pI_k hv_30
    refine fp_X9_163 hx hb hts hown hK hP hD hS (Or.inl rfl) hv_30 dX9_readOrder_35 (fun H locs hP hD hS => ?_)
    refine lv_iconst (v := 1) hx hb dX9_readOrder_38 (by decide) ?_
    refine lv_istore_n (lv' := [(3, .int 1), (2, .ref (b + y0)), (0, .ref (b + u0)), (1, .ref (b + u1))]) hx hb dX9_readOrder_39 rfl hl (by decide) rfl (fun ls hl => ?_)
    refine lv_iconst (v := 0) hx hb dX9_readOrder_40 (by decide) ?_
    refine lv_istore (lv' := [(4, .int 0), (3, .int 1), (2, .ref (b + y0)), (0, .ref (b + u0)), (1, .ref (b + u1))]) hx hb dX9_readOrder_41 hl (by decide) rfl (fun ls hl => ?_)
    refine W_cnt (c2 := kK cs_30 - kK cs) (n2 := kM cs_30 - kM cs) (by omega) (by omega) ?_
    exact L_43 F cs_30 u0 u1 y0 1 0 h (by omega) (by omega) _ _ _ _ hP hD hG (by omega) hS (lv_sub hl [3, 4, 2, 1, 0] rfl)
  have B_3 : ∀ (cs1 : CS) (u0 : Nat) (u1 : Nat) (y0 : Nat), c_X9_readOrder_b3 F cs1 u0 u1 y0 = some cs9 → kK cs ≤ kK cs1 → kM cs ≤ kM cs1 → ∀ (Gh H : Heap) (locs : List Loc) (ls : Array Slot), va_P (dC, dI) vwCl (cW cB cI cJ cZ cS cO b cs1) H → va_D A (cW cB cI cJ cZ cS cO b cs1) → va_S A s.heap Gh [] → Gh.size = b + kK cs1 → va_S A Gh H locs → lv_has ls 6 [(0, .ref (b + u0)), (1, .ref (b + u1))] → W p l e (headSpec (wsOf yX9_readOrder cX9_readOrder 6 none) ({ frames := 304, cells := kK cs9 - kK cs, slots := kM cs9 - kM cs, locals := 60 * (304) } : Room)).room s m ([.ref (b + x0), .ref (b + x1)] : List Value).toArray below meth c H locs (kK cs1 - kK cs) (kM cs1 - kM cs) (MQ below (va_Qv (fun (_ : Unit) => True) (fun _ t_ => va_P (dC, dI) vwCl (cW cB cI cJ cZ cS cO b cs9) t_.heap ∧ va_D A (cW cB cI cJ cZ cS cO b cs9) ∧ b + kK cs9 ≤ t_.heap.size) A) ([.ref (b + x0), .ref (b + x1)] : List Value).toArray s (kK cs9 - kK cs) (kM cs9 - kM cs) A) (F0 m 3 ls [.ref (b + y0)]) := by
    intro cs1 u0 u1 y0 h hmk hmm Gh H locs ls hP hD hG hgz hS hl
    obtain ⟨kb9, mb9⟩ := mo_c_X9_readOrder_b3 F cs1 u0 u1 y0 cs9 h
    unfold c_X9_readOrder_b3 at h
    refine lv_dup hx hb dX9_readOrder_3 rfl ?_
    replace h := ob h; obtain ⟨cs_31, hv_31, h⟩ := h
    obtain ⟨qk_31, qm_31⟩ := mo_c_X2_init F cs1 y0 cs_31 hv_31
    obtain ⟨k9_31, m9_31⟩ := mo_c_X9_readOrder_b7 F cs_31 u0 u1 y0 cs9 h
    refine caiV (As := []) hx hb hml hts hown hK hP hD hS hG hA (by omega) (by omega) hZ (sa_X2_init l dC dI cB cI cJ cZ cS cO b K V fz F cs1 y0 cs_31 hv_31) (cw_X9_X2_init hts (fr := 1) (Nat.le_of_ble_eq_true rfl) (Nat.le_of_ble_eq_true rfl)) rfl hl.1 (Nat.le_of_ble_eq_true rfl) ⟨by show kK cs1 - kK cs + (kK cs_31 - kK cs1) ≤ kK cs9 - kK cs; omega, by show kM cs1 - kM cs + (kM cs_31 - kM cs1) ≤ kM cs9 - kM cs; omega⟩ dX9_readOrder_4 (fun H locs hP hD hG hgz hS => ?_)
    refine W_cnt (c2 := kK cs_31 - kK cs) (n2 := kM cs_31 - kM cs) (by omega) (by omega) ?_
    exact B_7 cs_31 u0 u1 y0 h (by omega) (by omega) _ _ _ _ hP hD hG (by omega) hS (lv_sub hl [0, 1] rfl)
  have h := hf
  unfold c_X9_readOrder at h
  refine W_cnt (c2 := kK cs - kK cs) (n2 := kM cs - kM cs) (by omega) (by omega) ?_
  replace h := ob h; obtain ⟨cs_32, hv_32, h⟩ := h
  obtain ⟨qk_32, qm_32⟩ := nwO_k hv_32
  obtain ⟨k9_32, m9_32⟩ := mo_c_X9_readOrder_b3 F cs_32 x0 x1 (kK cs) cs9 h
  refine new_X9_68 hx hb hts hown hK hP hD hS hG hA (by omega) (by omega) ⟨by show kK cs - kK cs + 1 ≤ kK cs9 - kK cs; omega, by show kM cs - kM cs + 5 ≤ kM cs9 - kM cs; omega⟩ hv_32 dX9_readOrder_0 (fun H locs hP hD hG hgz hS => ?_)
  refine W_cnt (c2 := kK cs_32 - kK cs) (n2 := kM cs_32 - kM cs) (by omega) (by omega) ?_
  exact B_3 cs_32 x0 x1 (kK cs) h (by omega) (by omega) _ _ _ _ hP hD hG (by omega) hS (lv_sub hl [0, 1] rfl)
theorem dX11_makeRoomForChanges_0 : decode cX11_makeRoomForChanges 0 = .ok (.aload_n 0, 1) := by decide +kernel
theorem dX11_makeRoomForChanges_1 : decode cX11_makeRoomForChanges 1 = .ok (.getfield 43, 3) := by decide +kernel
theorem dX11_makeRoomForChanges_4 : decode cX11_makeRoomForChanges 4 = .ok (.arraylength, 1) := by decide +kernel
theorem dX11_makeRoomForChanges_5 : decode cX11_makeRoomForChanges 5 = .ok (.iload_n 1, 1) := by decide +kernel
theorem dX11_makeRoomForChanges_6 : decode cX11_makeRoomForChanges 6 = .ok (.if_icmp .lt 12, 3) := by decide +kernel
theorem dX11_makeRoomForChanges_9 : decode cX11_makeRoomForChanges 9 = .ok (.aload_n 0, 1) := by decide +kernel
theorem dX11_makeRoomForChanges_10 : decode cX11_makeRoomForChanges 10 = .ok (.getfield 47, 3) := by decide +kernel
theorem dX11_makeRoomForChanges_13 : decode cX11_makeRoomForChanges 13 = .ok (.arraylength, 1) := by decide +kernel
theorem dX11_makeRoomForChanges_14 : decode cX11_makeRoomForChanges 14 = .ok (.iload_n 1, 1) := by decide +kernel
theorem dX11_makeRoomForChanges_15 : decode cX11_makeRoomForChanges 15 = .ok (.if_icmp .ge 21, 3) := by decide +kernel
theorem dX11_makeRoomForChanges_18 : decode cX11_makeRoomForChanges 18 = .ok (.aload_n 0, 1) := by decide +kernel
theorem dX11_makeRoomForChanges_19 : decode cX11_makeRoomForChanges 19 = .ok (.iconst 2, 1) := by decide +kernel
theorem dX11_makeRoomForChanges_20 : decode cX11_makeRoomForChanges 20 = .ok (.iload_n 1, 1) := by decide +kernel
theorem dX11_makeRoomForChanges_21 : decode cX11_makeRoomForChanges 21 = .ok (.imul, 1) := by decide +kernel
theorem dX11_makeRoomForChanges_22 : decode cX11_makeRoomForChanges 22 = .ok (.newarray .int, 2) := by decide +kernel
theorem dX11_makeRoomForChanges_24 : decode cX11_makeRoomForChanges 24 = .ok (.putfield 43, 3) := by decide +kernel
theorem dX11_makeRoomForChanges_27 : decode cX11_makeRoomForChanges 27 = .ok (.aload_n 0, 1) := by decide +kernel
theorem dX11_makeRoomForChanges_28 : decode cX11_makeRoomForChanges 28 = .ok (.iconst 2, 1) := by decide +kernel
theorem dX11_makeRoomForChanges_29 : decode cX11_makeRoomForChanges 29 = .ok (.iload_n 1, 1) := by decide +kernel
theorem dX11_makeRoomForChanges_30 : decode cX11_makeRoomForChanges 30 = .ok (.imul, 1) := by decide +kernel
theorem dX11_makeRoomForChanges_31 : decode cX11_makeRoomForChanges 31 = .ok (.newarray .int, 2) := by decide +kernel
theorem dX11_makeRoomForChanges_33 : decode cX11_makeRoomForChanges 33 = .ok (.putfield 47, 3) := by decide +kernel
theorem dX11_makeRoomForChanges_36 : decode cX11_makeRoomForChanges 36 = .ok (.return_, 1) := by decide +kernel
def c_X11_makeRoomForChanges_b36 (F : Nat) (cs1 : CS) : Option CS := some cs1
def c_X11_makeRoomForChanges_b27 (F : Nat) (cs1 : CS) (u0 : Nat) (u1 : Int32) : Option CS := Option.bind (nwA cs1 12 397 u0 (2 * u1)) fun cs_1 => c_X11_makeRoomForChanges_b36 F cs_1
def c_X11_makeRoomForChanges_b18 (F : Nat) (cs1 : CS) (u0 : Nat) (u1 : Int32) : Option CS := Option.bind (nwA cs1 12 396 u0 (2 * u1)) fun cs_2 => c_X11_makeRoomForChanges_b27 F cs_2 u0 u1
def c_X11_makeRoomForChanges (F : Nat) (cs : CS) (x0 : Nat) (x1 : Int32) : Option CS := Option.bind (gA cs 12 396 x0) fun v_3 => Option.bind (lnA cs 396 x0 v_3) fun v_4 => if v_4 < x1 then (c_X11_makeRoomForChanges_b18 F cs x0 x1) else (Option.bind (gA cs 12 397 x0) fun v_6 => Option.bind (lnA cs 397 x0 v_6) fun v_7 => if x1 ≤ v_7 then (c_X11_makeRoomForChanges_b36 F cs) else (c_X11_makeRoomForChanges_b18 F cs x0 x1))
theorem cw_X11_X11_makeRoomForChanges {R : Room} {s : State} {args : Array Value} {y0 : MethodName} {c0 : ByteArray} {n0 : Nat} {r0 : Option FieldType} (hts : ∀ w ∈ wsOf y0 c0 n0 r0, w.before args s = true) {fr mc ms : Nat} (h1 : fr + 1 ≤ R.frames) (h2 : 8 + (2 + 11) + 60 * fr ≤ R.locals) : CallW R s args RX11 RX11 219 yX11_makeRoomForChanges cX11_makeRoomForChanges 2 none (wsOf yX11_makeRoomForChanges cX11_makeRoomForChanges 2 none) ({ frames := fr, cells := mc, slots := ms, locals := 60 * fr } : Room) mc ms 1 := cwV 1 hts (gd_all (in_V kw_1551 kw_1553 kw_90 kw_181 kc_X11_makeRoomForChanges)) rfl rfl rfl (by decide +kernel) ⟨h1, h2⟩
theorem mo_c_X11_makeRoomForChanges_b36 (F : Nat) (cs1 : CS) (cs9 : CS) (h : c_X11_makeRoomForChanges_b36 F cs1 = some cs9) : kK cs1 ≤ kK cs9 ∧ kM cs1 ≤ kM cs9 := by
  unfold c_X11_makeRoomForChanges_b36 at h
  have h9 := Option.some.inj h
  have k9 := congrArg kK h9; have m9 := congrArg kM h9; exact ⟨by omega, by omega⟩
theorem mo_c_X11_makeRoomForChanges_b27 (F : Nat) (cs1 : CS) (u0 : Nat) (u1 : Int32) (cs9 : CS) (h : c_X11_makeRoomForChanges_b27 F cs1 u0 u1 = some cs9) : kK cs1 ≤ kK cs9 ∧ kM cs1 ≤ kM cs9 := by
  unfold c_X11_makeRoomForChanges_b27 at h
  replace h := ob h; obtain ⟨cs_3, hv_3, h⟩ := h
  obtain ⟨qk_3, qm_3⟩ := nwA_k hv_3
  obtain ⟨k9, m9⟩ := mo_c_X11_makeRoomForChanges_b36 F cs_3 cs9 h
  exact ⟨by omega, by omega⟩
theorem mo_c_X11_makeRoomForChanges_b18 (F : Nat) (cs1 : CS) (u0 : Nat) (u1 : Int32) (cs9 : CS) (h : c_X11_makeRoomForChanges_b18 F cs1 u0 u1 = some cs9) : kK cs1 ≤ kK cs9 ∧ kM cs1 ≤ kM cs9 := by
  unfold c_X11_makeRoomForChanges_b18 at h
  replace h := ob h; obtain ⟨cs_3, hv_3, h⟩ := h
  obtain ⟨qk_3, qm_3⟩ := nwA_k hv_3
  obtain ⟨k9, m9⟩ := mo_c_X11_makeRoomForChanges_b27 F cs_3 u0 u1 cs9 h
  exact ⟨by omega, by omega⟩
theorem mo_c_X11_makeRoomForChanges (F : Nat) (cs : CS) (x0 : Nat) (x1 : Int32) (cs9 : CS) (h : c_X11_makeRoomForChanges F cs x0 x1 = some cs9) : kK cs ≤ kK cs9 ∧ kM cs ≤ kM cs9 := by
  unfold c_X11_makeRoomForChanges at h
  replace h := ob h; obtain ⟨v_3, hv_3, h⟩ := h
  replace h := ob h; obtain ⟨v_4, hv_4, h⟩ := h
  by_cases c_5 : v_4 < x1
  · skip
    replace h := (if_pos c_5).symm.trans h
    obtain ⟨k9, m9⟩ := mo_c_X11_makeRoomForChanges_b18 F cs x0 x1 cs9 h
    exact ⟨by omega, by omega⟩
  · skip
    replace h := (if_neg c_5).symm.trans h
    replace h := ob h; obtain ⟨v_6, hv_6, h⟩ := h
    replace h := ob h; obtain ⟨v_7, hv_7, h⟩ := h
    by_cases c_8 : x1 ≤ v_7
    · skip
      replace h := (if_pos c_8).symm.trans h
      obtain ⟨k9, m9⟩ := mo_c_X11_makeRoomForChanges_b36 F cs cs9 h
      exact ⟨by omega, by omega⟩
    · skip
      replace h := (if_neg c_8).symm.trans h
      obtain ⟨k9, m9⟩ := mo_c_X11_makeRoomForChanges_b18 F cs x0 x1 cs9 h
      exact ⟨by omega, by omega⟩
set_option maxHeartbeats 4000000 in
set_option maxRecDepth 100000 in
theorem sa_X11_makeRoomForChanges (l : Launch) (dC : Nat → ClassId) (dI : Nat → Nat → Nat) (cB cI cJ cZ cS cO : ClassId) (b : Nat) (K V : Nat → Nat) (fz : Value) (F : Nat) (cs : CS) (x0 : Nat) (x1 : Int32) (cs9 : CS) (hf : c_X11_makeRoomForChanges F cs x0 x1 = some cs9) : oaV l dC dI cB cI cJ cZ cS cO b K V fz yX11_makeRoomForChanges (wsOf yX11_makeRoomForChanges cX11_makeRoomForChanges 2 none) (0) [.ref (b + x0), .int x1] cs cs9 := by
  obtain ⟨kb9, mb9⟩ := mo_c_X11_makeRoomForChanges F cs x0 x1 cs9 hf
  refine ⟨⟨kb9, mb9⟩, ?_⟩
  refine Met.ofW (cc := cX11_makeRoomForChanges) (maxL := 2) (ret := none) (by decide) rfl ?_
  intro p e s m args below meth c s₁ B hml hv
  obtain ⟨rfl, hsz, hP, hK, hD0, hZ⟩ := hv
  have hx := B.exec
  have hb := B.bytes
  have hr := B.returns
  have hts := atoms_spec (ws := (wsOf yX11_makeRoomForChanges cX11_makeRoomForChanges 2 none)) B.pre
  have hown : s.vm.findClass RX11 = some m.cls := findClass_of_methodNamed B.named
  have hlocks := B.notSynchronized
  have hD := hD0.self (sz := b + kK cs)
  generalize hAe : va_A (cW cB cI cJ cZ cS cO b cs) (b + kK cs) = A at hD hZ ⊢
  have hA : ∀ q : Nat, s.heap.size ≤ q → A q := fun q h => by rw [← hAe]; exact Or.inr (by omega)
  have hS : va_S A s.heap s.heap [] := va_S.rf
  have hG : va_S A s.heap s.heap [] := va_S.rf
  have hgz : s.heap.size = b + kK cs := hsz
  have hl := lv_entry ([.ref (b + x0), .int x1]) (n := 2) (Nat.le_of_ble_eq_true rfl)
  rw [lg_entry_eq]
  generalize (lg_sl ([.ref (b + x0), .int x1]) ++ List.replicate (2 - (lg_sl ([.ref (b + x0), .int x1])).length) Slot.unset).toArray = ls at hl ⊢
  have hl : lv_has ls 2 [(0, .ref (b + x0)), (1, .int x1)] := hl
  have B_36 : ∀ (cs1 : CS) , c_X11_makeRoomForChanges_b36 F cs1 = some cs9 → kK cs ≤ kK cs1 → kM cs ≤ kM cs1 → ∀ (Gh H : Heap) (locs : List Loc) (ls : Array Slot), va_P (dC, dI) vwCl (cW cB cI cJ cZ cS cO b cs1) H → va_D A (cW cB cI cJ cZ cS cO b cs1) → va_S A s.heap Gh [] → Gh.size = b + kK cs1 → va_S A Gh H locs → lv_has ls 2 [] → W p l e (headSpec (wsOf yX11_makeRoomForChanges cX11_makeRoomForChanges 2 none) ({ frames := 0, cells := kK cs9 - kK cs, slots := kM cs9 - kM cs, locals := 60 * (0) } : Room)).room s m ([.ref (b + x0), .int x1] : List Value).toArray below meth c H locs (kK cs1 - kK cs) (kM cs1 - kM cs) (MQ below (va_Qv (fun (_ : Unit) => True) (fun _ t_ => va_P (dC, dI) vwCl (cW cB cI cJ cZ cS cO b cs9) t_.heap ∧ va_D A (cW cB cI cJ cZ cS cO b cs9) ∧ b + kK cs9 ≤ t_.heap.size) A) ([.ref (b + x0), .int x1] : List Value).toArray s (kK cs9 - kK cs) (kM cs9 - kM cs) A) (F0 m 36 ls []) := by
    intro cs1  h hmk hmm Gh H locs ls hP hD hG hgz hS hl
    obtain ⟨kb9, mb9⟩ := mo_c_X11_makeRoomForChanges_b36 F cs1  cs9 h
    unfold c_X11_makeRoomForChanges_b36 at h
    have e1 := Option.some.inj h
    rw [e1] at hP hD
    have e3 := congrArg kK e1
    have e4 := congrArg kM e1
    refine W_cnt (c2 := kK cs9 - kK cs) (n2 := kM cs9 - kM cs) (by omega) (by omega) ?_
    exact W.vret hx hb hr (fun t_ ht hW => ⟨⟨(), rfl, trivial, by rw [ht]; exact hP, hD, by rw [ht]; have := hS.1; omega⟩, (hG.comp hS).F ht⟩) (hG.comp hS).2.2 dX11_makeRoomForChanges_36
  have B_27 : ∀ (cs1 : CS) (u0 : Nat) (u1 : Int32), c_X11_makeRoomForChanges_b27 F cs1 u0 u1 = some cs9 → kK cs ≤ kK cs1 → kM cs ≤ kM cs1 → ∀ (Gh H : Heap) (locs : List Loc) (ls : Array Slot), va_P (dC, dI) vwCl (cW cB cI cJ cZ cS cO b cs1) H → va_D A (cW cB cI cJ cZ cS cO b cs1) → va_S A s.heap Gh [] → Gh.size = b + kK cs1 → va_S A Gh H locs → lv_has ls 2 [(0, .ref (b + u0)), (1, .int u1)] → W p l e (headSpec (wsOf yX11_makeRoomForChanges cX11_makeRoomForChanges 2 none) ({ frames := 0, cells := kK cs9 - kK cs, slots := kM cs9 - kM cs, locals := 60 * (0) } : Room)).room s m ([.ref (b + x0), .int x1] : List Value).toArray below meth c H locs (kK cs1 - kK cs) (kM cs1 - kM cs) (MQ below (va_Qv (fun (_ : Unit) => True) (fun _ t_ => va_P (dC, dI) vwCl (cW cB cI cJ cZ cS cO b cs9) t_.heap ∧ va_D A (cW cB cI cJ cZ cS cO b cs9) ∧ b + kK cs9 ≤ t_.heap.size) A) ([.ref (b + x0), .int x1] : List Value).toArray s (kK cs9 - kK cs) (kM cs9 - kM cs) A) (F0 m 27 ls []) := by
    intro cs1 u0 u1 h hmk hmm Gh H locs ls hP hD hG hgz hS hl
    obtain ⟨kb9, mb9⟩ := mo_c_X11_makeRoomForChanges_b27 F cs1 u0 u1 cs9 h
    unfold c_X11_makeRoomForChanges_b27 at h
    refine lv_aload_n hx hb dX11_makeRoomForChanges_27 rfl (lv_at hl 0 rfl) ?_
    refine lv_iconst (v := 2) hx hb dX11_makeRoomForChanges_28 (by decide) ?_
    refine lv_iload_n hx hb dX11_makeRoomForChanges_29 rfl (lv_at hl 1 rfl) ?_
    refine lv_imul hx hb dX11_makeRoomForChanges_30 ?_
    replace h := ob h; obtain ⟨cs_1, hv_1, h⟩ := h
    obtain ⟨qk_1, qm_1⟩ := nwA_k hv_1
    obtain ⟨k9_1, m9_1⟩ := mo_c_X11_makeRoomForChanges_b36 F cs_1 cs9 h
    refine nar_X11_47 hx hb hts hown hK hP hD hS hG hA (by omega) (by omega) ⟨by show kK cs1 - kK cs + 1 ≤ kK cs9 - kK cs; omega, by show kM cs1 - kM cs + (2 * u1).toNatClampNeg ≤ kM cs9 - kM cs; omega⟩ hv_1 dX11_makeRoomForChanges_31 dX11_makeRoomForChanges_33 (fun H locs hP hD hG hgz hS => ?_)
    refine W_cnt (c2 := kK cs_1 - kK cs) (n2 := kM cs_1 - kM cs) (by omega) (by omega) ?_
    exact B_36 cs_1 h (by omega) (by omega) _ _ _ _ hP hD hG (by omega) hS (lv_sub hl [] rfl)
  have B_18 : ∀ (cs1 : CS) (u0 : Nat) (u1 : Int32), c_X11_makeRoomForChanges_b18 F cs1 u0 u1 = some cs9 → kK cs ≤ kK cs1 → kM cs ≤ kM cs1 → ∀ (Gh H : Heap) (locs : List Loc) (ls : Array Slot), va_P (dC, dI) vwCl (cW cB cI cJ cZ cS cO b cs1) H → va_D A (cW cB cI cJ cZ cS cO b cs1) → va_S A s.heap Gh [] → Gh.size = b + kK cs1 → va_S A Gh H locs → lv_has ls 2 [(0, .ref (b + u0)), (1, .int u1)] → W p l e (headSpec (wsOf yX11_makeRoomForChanges cX11_makeRoomForChanges 2 none) ({ frames := 0, cells := kK cs9 - kK cs, slots := kM cs9 - kM cs, locals := 60 * (0) } : Room)).room s m ([.ref (b + x0), .int x1] : List Value).toArray below meth c H locs (kK cs1 - kK cs) (kM cs1 - kM cs) (MQ below (va_Qv (fun (_ : Unit) => True) (fun _ t_ => va_P (dC, dI) vwCl (cW cB cI cJ cZ cS cO b cs9) t_.heap ∧ va_D A (cW cB cI cJ cZ cS cO b cs9) ∧ b + kK cs9 ≤ t_.heap.size) A) ([.ref (b + x0), .int x1] : List Value).toArray s (kK cs9 - kK cs) (kM cs9 - kM cs) A) (F0 m 18 ls []) := by
    intro cs1 u0 u1 h hmk hmm Gh H locs ls hP hD hG hgz hS hl
    obtain ⟨kb9, mb9⟩ := mo_c_X11_makeRoomForChanges_b18 F cs1 u0 u1 cs9 h
    unfold c_X11_makeRoomForChanges_b18 at h
    refine lv_aload_n hx hb dX11_makeRoomForChanges_18 rfl (lv_at hl 0 rfl) ?_
    refine lv_iconst (v := 2) hx hb dX11_makeRoomForChanges_19 (by decide) ?_
    refine lv_iload_n hx hb dX11_makeRoomForChanges_20 rfl (lv_at hl 1 rfl) ?_
    refine lv_imul hx hb dX11_makeRoomForChanges_21 ?_
    replace h := ob h; obtain ⟨cs_2, hv_2, h⟩ := h
    obtain ⟨qk_2, qm_2⟩ := nwA_k hv_2
    obtain ⟨k9_2, m9_2⟩ := mo_c_X11_makeRoomForChanges_b27 F cs_2 u0 u1 cs9 h
    refine nar_X11_43 hx hb hts hown hK hP hD hS hG hA (by omega) (by omega) ⟨by show kK cs1 - kK cs + 1 ≤ kK cs9 - kK cs; omega, by show kM cs1 - kM cs + (2 * u1).toNatClampNeg ≤ kM cs9 - kM cs; omega⟩ hv_2 dX11_makeRoomForChanges_22 dX11_makeRoomForChanges_24 (fun H locs hP hD hG hgz hS => ?_)
    refine W_cnt (c2 := kK cs_2 - kK cs) (n2 := kM cs_2 - kM cs) (by omega) (by omega) ?_
    exact B_27 cs_2 u0 u1 h (by omega) (by omega) _ _ _ _ hP hD hG (by omega) hS (lv_sub hl [0, 1] rfl)
  have h := hf
  unfold c_X11_makeRoomForChanges at h
  refine W_cnt (c2 := kK cs - kK cs) (n2 := kM cs - kM cs) (by omega) (by omega) ?_
  refine lv_aload_n hx hb dX11_makeRoomForChanges_0 rfl (lv_at hl 0 rfl) ?_
  replace h := ob h; obtain ⟨v_3, hv_3, h⟩ := h
  refine fg_X11_43 hx hb hts hown hK hP hv_3 dX11_makeRoomForChanges_1 ?_
  replace h := ob h; obtain ⟨v_4, hv_4, h⟩ := h
  refine alen0 hx hb hK hP rfl hv_4 dX11_makeRoomForChanges_4 ?_
  refine lv_iload_n hx hb dX11_makeRoomForChanges_5 rfl (lv_at hl 1 rfl) ?_
  refine lv_icmp_lt (tgt := 18) hx hb dX11_makeRoomForChanges_6 (by decide) (fun c_5 => ?_) (fun c_5 => ?_)
  · skip
    replace h := (if_pos c_5).symm.trans h
    refine W_cnt (c2 := kK cs - kK cs) (n2 := kM cs - kM cs) (by omega) (by omega) ?_
    exact B_18 cs x0 x1 h (by omega) (by omega) _ _ _ _ hP hD hG (by omega) hS (lv_sub hl [0, 1] rfl)
  · skip
    replace h := (if_neg c_5).symm.trans h
    refine lv_aload_n hx hb dX11_makeRoomForChanges_9 rfl (lv_at hl 0 rfl) ?_
    replace h := ob h; obtain ⟨v_6, hv_6, h⟩ := h
    refine fg_X11_47 hx hb hts hown hK hP hv_6 dX11_makeRoomForChanges_10 ?_
    replace h := ob h; obtain ⟨v_7, hv_7, h⟩ := h
    refine alen0 hx hb hK hP rfl hv_7 dX11_makeRoomForChanges_13 ?_
    refine lv_iload_n hx hb dX11_makeRoomForChanges_14 rfl (lv_at hl 1 rfl) ?_
    refine lv_icmp_ge (tgt := 36) hx hb dX11_makeRoomForChanges_15 (by decide) (fun c_8 => ?_) (fun c_8 => ?_)
    · skip
      replace h := (if_pos c_8).symm.trans h
      refine W_cnt (c2 := kK cs - kK cs) (n2 := kM cs - kM cs) (by omega) (by omega) ?_
      exact B_36 cs h (by omega) (by omega) _ _ _ _ hP hD hG (by omega) hS (lv_sub hl [] rfl)
    · skip
      replace h := (if_neg c_8).symm.trans h
      refine W_cnt (c2 := kK cs - kK cs) (n2 := kM cs - kM cs) (by omega) (by omega) ?_
      exact B_18 cs x0 x1 h (by omega) (by omega) _ _ _ _ hP hD hG (by omega) hS (lv_sub hl [0, 1] rfl)
theorem dX11_answer_0 : decode cX11_answer 0 = .ok (.aload_n 0, 1) := by decide +kernel
theorem dX11_answer_1 : decode cX11_answer 1 = .ok (.getfield 107, 3) := by decide +kernel
theorem dX11_answer_4 : decode cX11_answer 4 = .ok (.ifnull 10, 3) := by decide +kernel
theorem dX11_answer_7 : decode cX11_answer 7 = .ok (.aload_n 0, 1) := by decide +kernel
theorem dX11_answer_8 : decode cX11_answer 8 = .ok (.getfield 119, 3) := by decide +kernel
theorem dX11_answer_11 : decode cX11_answer 11 = .ok (.ifnonnull 4, 3) := by decide +kernel
theorem dX11_answer_14 : decode cX11_answer 14 = .ok (.return_, 1) := by decide +kernel
theorem dX11_answer_15 : decode cX11_answer 15 = .ok (.aload_n 0, 1) := by decide +kernel
theorem dX11_answer_16 : decode cX11_answer 16 = .ok (.invokevirtual 127, 3) := by decide +kernel
theorem dX11_answer_19 : decode cX11_answer 19 = .ok (.istore_n 2, 1) := by decide +kernel
theorem dX11_answer_20 : decode cX11_answer 20 = .ok (.aload_n 0, 1) := by decide +kernel
theorem dX11_answer_21 : decode cX11_answer 21 = .ok (.getfield 40, 3) := by decide +kernel
theorem dX11_answer_24 : decode cX11_answer 24 = .ok (.aload_n 0, 1) := by decide +kernel
theorem dX11_answer_25 : decode cX11_answer 25 = .ok (.getfield 37, 3) := by decide +kernel
theorem dX11_answer_28 : decode cX11_answer 28 = .ok (.iload_n 1, 1) := by decide +kernel
theorem dX11_answer_29 : decode cX11_answer 29 = .ok (.ifCond .eq 12, 3) := by decide +kernel
theorem dX11_answer_32 : decode cX11_answer 32 = .ok (.aload_n 0, 1) := by decide +kernel
theorem dX11_answer_33 : decode cX11_answer 33 = .ok (.getfield 162, 3) := by decide +kernel
theorem dX11_answer_36 : decode cX11_answer 36 = .ok (.iload_n 2, 1) := by decide +kernel
theorem dX11_answer_37 : decode cX11_answer 37 = .ok (.imul, 1) := by decide +kernel
theorem dX11_answer_38 : decode cX11_answer 38 = .ok (.goto 4, 3) := by decide +kernel
theorem dX11_answer_41 : decode cX11_answer 41 = .ok (.iconst 0, 1) := by decide +kernel
theorem dX11_answer_42 : decode cX11_answer 42 = .ok (.invokevirtual 207, 3) := by decide +kernel
theorem dX11_answer_45 : decode cX11_answer 45 = .ok (.iload_n 1, 1) := by decide +kernel
theorem dX11_answer_46 : decode cX11_answer 46 = .ok (.ifCond .eq 10, 3) := by decide +kernel
theorem dX11_answer_49 : decode cX11_answer 49 = .ok (.aload_n 0, 1) := by decide +kernel
theorem dX11_answer_50 : decode cX11_answer 50 = .ok (.getfield 162, 3) := by decide +kernel
theorem dX11_answer_53 : decode cX11_answer 53 = .ok (.goto 4, 3) := by decide +kernel
theorem dX11_answer_56 : decode cX11_answer 56 = .ok (.iconst 0, 1) := by decide +kernel
theorem dX11_answer_57 : decode cX11_answer 57 = .ok (.istore_n 3, 1) := by decide +kernel
theorem dX11_answer_58 : decode cX11_answer 58 = .ok (.aload_n 0, 1) := by decide +kernel
theorem dX11_answer_59 : decode cX11_answer 59 = .ok (.aload_n 0, 1) := by decide +kernel
theorem dX11_answer_60 : decode cX11_answer 60 = .ok (.getfield 119, 3) := by decide +kernel
theorem dX11_answer_63 : decode cX11_answer 63 = .ok (.aload_n 0, 1) := by decide +kernel
theorem dX11_answer_64 : decode cX11_answer 64 = .ok (.getfield 107, 3) := by decide +kernel
theorem dX11_answer_67 : decode cX11_answer 67 = .ok (.getfield 90, 3) := by decide +kernel
theorem dX11_answer_70 : decode cX11_answer 70 = .ok (.iconst 0, 1) := by decide +kernel
theorem dX11_answer_71 : decode cX11_answer 71 = .ok (.invokevirtual 211, 3) := by decide +kernel
theorem dX11_answer_74 : decode cX11_answer 74 = .ok (.putfield 162, 3) := by decide +kernel
theorem dX11_answer_77 : decode cX11_answer 77 = .ok (.aload_n 0, 1) := by decide +kernel
theorem dX11_answer_78 : decode cX11_answer 78 = .ok (.getfield 34, 3) := by decide +kernel
theorem dX11_answer_81 : decode cX11_answer 81 = .ok (.aload_n 0, 1) := by decide +kernel
theorem dX11_answer_82 : decode cX11_answer 82 = .ok (.getfield 30, 3) := by decide +kernel
theorem dX11_answer_85 : decode cX11_answer 85 = .ok (.aload_n 0, 1) := by decide +kernel
theorem dX11_answer_86 : decode cX11_answer 86 = .ok (.getfield 162, 3) := by decide +kernel
theorem dX11_answer_89 : decode cX11_answer 89 = .ok (.iload_n 2, 1) := by decide +kernel
theorem dX11_answer_90 : decode cX11_answer 90 = .ok (.imul, 1) := by decide +kernel
theorem dX11_answer_91 : decode cX11_answer 91 = .ok (.invokevirtual 207, 3) := by decide +kernel
theorem dX11_answer_94 : decode cX11_answer 94 = .ok (.aload_n 0, 1) := by decide +kernel
theorem dX11_answer_95 : decode cX11_answer 95 = .ok (.getfield 37, 3) := by decide +kernel
theorem dX11_answer_98 : decode cX11_answer 98 = .ok (.aload_n 0, 1) := by decide +kernel
theorem dX11_answer_99 : decode cX11_answer 99 = .ok (.getfield 30, 3) := by decide +kernel
theorem dX11_answer_102 : decode cX11_answer 102 = .ok (.aload_n 0, 1) := by decide +kernel
theorem dX11_answer_103 : decode cX11_answer 103 = .ok (.getfield 162, 3) := by decide +kernel
theorem dX11_answer_106 : decode cX11_answer 106 = .ok (.iload_n 2, 1) := by decide +kernel
theorem dX11_answer_107 : decode cX11_answer 107 = .ok (.imul, 1) := by decide +kernel
theorem dX11_answer_108 : decode cX11_answer 108 = .ok (.invokevirtual 207, 3) := by decide +kernel
theorem dX11_answer_111 : decode cX11_answer 111 = .ok (.aload_n 0, 1) := by decide +kernel
theorem dX11_answer_112 : decode cX11_answer 112 = .ok (.getfield 37, 3) := by decide +kernel
theorem dX11_answer_115 : decode cX11_answer 115 = .ok (.iconst 0, 1) := by decide +kernel
theorem dX11_answer_116 : decode cX11_answer 116 = .ok (.aload_n 0, 1) := by decide +kernel
theorem dX11_answer_117 : decode cX11_answer 117 = .ok (.getfield 162, 3) := by decide +kernel
theorem dX11_answer_120 : decode cX11_answer 120 = .ok (.iload_n 2, 1) := by decide +kernel
theorem dX11_answer_121 : decode cX11_answer 121 = .ok (.iconst 0, 1) := by decide +kernel
theorem dX11_answer_122 : decode cX11_answer 122 = .ok (.invokevirtual 215, 3) := by decide +kernel
theorem dX11_answer_125 : decode cX11_answer 125 = .ok (.iload_n 1, 1) := by decide +kernel
theorem dX11_answer_126 : decode cX11_answer 126 = .ok (.ifCond .eq 49, 3) := by decide +kernel
theorem dX11_answer_129 : decode cX11_answer 129 = .ok (.aload_n 0, 1) := by decide +kernel
theorem dX11_answer_130 : decode cX11_answer 130 = .ok (.iload_n 3, 1) := by decide +kernel
theorem dX11_answer_131 : decode cX11_answer 131 = .ok (.aload_n 0, 1) := by decide +kernel
theorem dX11_answer_132 : decode cX11_answer 132 = .ok (.getfield 162, 3) := by decide +kernel
theorem dX11_answer_135 : decode cX11_answer 135 = .ok (.iadd, 1) := by decide +kernel
theorem dX11_answer_136 : decode cX11_answer 136 = .ok (.invokevirtual 219, 3) := by decide +kernel
theorem dX11_answer_139 : decode cX11_answer 139 = .ok (.aload_n 0, 1) := by decide +kernel
theorem dX11_answer_140 : decode cX11_answer 140 = .ok (.aload_n 0, 1) := by decide +kernel
theorem dX11_answer_141 : decode cX11_answer 141 = .ok (.getfield 40, 3) := by decide +kernel
theorem dX11_answer_144 : decode cX11_answer 144 = .ok (.iload_n 3, 1) := by decide +kernel
theorem dX11_answer_145 : decode cX11_answer 145 = .ok (.aload_n 0, 1) := by decide +kernel
theorem dX11_answer_146 : decode cX11_answer 146 = .ok (.getfield 37, 3) := by decide +kernel
theorem dX11_answer_149 : decode cX11_answer 149 = .ok (.aload_n 0, 1) := by decide +kernel
theorem dX11_answer_150 : decode cX11_answer 150 = .ok (.getfield 162, 3) := by decide +kernel
theorem dX11_answer_153 : decode cX11_answer 153 = .ok (.iconst (-1), 1) := by decide +kernel
theorem dX11_answer_154 : decode cX11_answer 154 = .ok (.invokevirtual 222, 3) := by decide +kernel
theorem dX11_answer_157 : decode cX11_answer 157 = .ok (.aload_n 0, 1) := by decide +kernel
theorem dX11_answer_158 : decode cX11_answer 158 = .ok (.aload_n 0, 1) := by decide +kernel
theorem dX11_answer_159 : decode cX11_answer 159 = .ok (.getfield 37, 3) := by decide +kernel
theorem dX11_answer_162 : decode cX11_answer 162 = .ok (.aload_n 0, 1) := by decide +kernel
theorem dX11_answer_163 : decode cX11_answer 163 = .ok (.getfield 162, 3) := by decide +kernel
theorem dX11_answer_166 : decode cX11_answer 166 = .ok (.aload_n 0, 1) := by decide +kernel
theorem dX11_answer_167 : decode cX11_answer 167 = .ok (.getfield 40, 3) := by decide +kernel
theorem dX11_answer_170 : decode cX11_answer 170 = .ok (.iload_n 3, 1) := by decide +kernel
theorem dX11_answer_171 : decode cX11_answer 171 = .ok (.iconst 1, 1) := by decide +kernel
theorem dX11_answer_172 : decode cX11_answer 172 = .ok (.invokevirtual 222, 3) := by decide +kernel
theorem dX11_answer_175 : decode cX11_answer 175 = .ok (.return_, 1) := by decide +kernel
def c_X11_answer_b14 (F : Nat) (cs1 : CS) : Option CS := some cs1
def c_X11_answer_b175 (F : Nat) (cs1 : CS) : Option CS := some cs1
def c_X11_answer_b139 (F : Nat) (cs1 : CS) (u0 : Nat) (u3 : Int32) : Option CS := Option.bind (gR cs1 12 394 u0) fun v_1 => Option.bind (gR cs1 12 393 u0) fun v_2 => Option.bind (gI cs1 12 395 u0) fun v_3 => Option.bind (v_2) fun i_4 => Option.bind (v_1) fun i_5 => Option.bind (ckE cs1 12 u0) fun _ => Option.bind (c_X11_tellChanges F cs1 u0 i_5 u3 i_4 v_3 (-1)) fun cs_6 => Option.bind (gR cs_6 12 393 u0) fun v_8 => Option.bind (gI cs_6 12 395 u0) fun v_9 => Option.bind (gR cs_6 12 394 u0) fun v_10 => Option.bind (v_10) fun i_11 => Option.bind (v_8) fun i_12 => Option.bind (ckE cs_6 12 u0) fun _ => Option.bind (c_X11_tellChanges F cs_6 u0 i_12 v_9 i_11 u3 1) fun cs_13 => c_X11_answer_b175 F cs_13
def c_X11_answer_b125 (F : Nat) (cs1 : CS) (u0 : Nat) (u1 : Int32) (u3 : Int32) : Option CS := if u1 = 0 then (c_X11_answer_b175 F cs1) else (Option.bind (gI cs1 12 395 u0) fun v_16 => Option.bind (ckE cs1 12 u0) fun _ => Option.bind (c_X11_makeRoomForChanges F cs1 u0 (u3 + v_16)) fun cs_17 => c_X11_answer_b139 F cs_17 u0 u3)
def c_X11_answer_b111 (F : Nat) (cs1 : CS) (u0 : Nat) (u1 : Int32) (u2 : Int32) (u3 : Int32) : Option CS := Option.bind (gR cs1 12 393 u0) fun v_19 => Option.bind (gI cs1 12 395 u0) fun v_20 => Option.bind (v_19) fun i_22 => Option.bind (ckE cs1 9 i_22) fun _ => Option.bind (c_X8_sort F cs1 i_22 0 v_20 u2 0) fun cs_21 => c_X11_answer_b125 F cs_21 u0 u1 u3
def c_X11_answer_b94 (F : Nat) (cs1 : CS) (u0 : Nat) (u1 : Int32) (u2 : Int32) (u3 : Int32) : Option CS := Option.bind (gR cs1 12 393 u0) fun v_24 => Option.bind (gR cs1 12 391 u0) fun v_25 => Option.bind (gI cs1 12 395 u0) fun v_26 => Option.bind (v_25) fun i_27 => Option.bind (v_24) fun i_29 => Option.bind (ckE cs1 9 i_29) fun _ => Option.bind (c_X8_take F cs1 i_29 i_27 (v_26 * u2)) fun cs_28 => c_X11_answer_b111 F cs_28 u0 u1 u2 u3
def c_X11_answer_b74 (F : Nat) (cs1 : CS) (u0 : Nat) (u1 : Int32) (u2 : Int32) (u3 : Int32) (y0 : Int32) (y1 : Nat) : Option CS := Option.bind (pI cs1 12 395 y1 y0) fun cs_31 => Option.bind (gR cs_31 12 392 u0) fun v_32 => Option.bind (gR cs_31 12 391 u0) fun v_33 => Option.bind (gI cs_31 12 395 u0) fun v_34 => Option.bind (v_33) fun i_35 => Option.bind (v_32) fun i_37 => Option.bind (ckE cs_31 9 i_37) fun _ => Option.bind (c_X8_take F cs_31 i_37 i_35 (v_34 * u2)) fun cs_36 => c_X11_answer_b94 F cs_36 u0 u1 u2 u3
def c_X11_answer_b57 (F : Nat) (cs1 : CS) (u0 : Nat) (u1 : Int32) (u2 : Int32) (y0 : Int32) : Option CS := Option.bind (gR cs1 12 390 u0) fun v_39 => Option.bind (gR cs1 12 389 u0) fun v_40 => Option.bind (v_40) fun i_41 => Option.bind (gR cs1 10 323 i_41) fun v_42 => Option.bind (v_42) fun i_43 => Option.bind (v_39) fun i_45 => Option.bind (ckE cs1 5 i_45) fun _ => Option.bind (c_X4_runQuery F 300 cs1 i_45 i_43 0) fun z_44 => c_X11_answer_b74 F z_44.1 u0 u1 u2 y0 z_44.2 u0
def c_X11_answer_b45 (F : Nat) (cs1 : CS) (u0 : Nat) (u1 : Int32) (u2 : Int32) : Option CS := if u1 = 0 then (c_X11_answer_b57 F cs1 u0 u1 u2 0) else (Option.bind (gI cs1 12 395 u0) fun v_48 => c_X11_answer_b57 F cs1 u0 u1 u2 v_48)
def c_X11_answer_b42 (F : Nat) (cs1 : CS) (u0 : Nat) (u1 : Int32) (u2 : Int32) (y0 : Int32) (y1 : Option Nat) (y2 : Option Nat) : Option CS := Option.bind (y1) fun i_49 => Option.bind (y2) fun i_51 => Option.bind (ckE cs1 9 i_51) fun _ => Option.bind (c_X8_take F cs1 i_51 i_49 y0) fun cs_50 => c_X11_answer_b45 F cs_50 u0 u1 u2
def c_X11_answer (F : Nat) (cs : CS) (x0 : Nat) (x1 : Int32) : Option CS := Option.bind (gR cs 12 389 x0) fun v_53 => oc v_53 (c_X11_answer_b14 F cs) (fun i_54 => Option.bind (gR cs 12 390 x0) fun v_55 => oc v_55 (c_X11_answer_b14 F cs) (fun i_56 => Option.bind (ckE cs 12 x0) fun _ => Option.bind (c_X11_width F cs x0) fun v_57 => Option.bind (gR cs 12 394 x0) fun v_59 => Option.bind (gR cs 12 393 x0) fun v_60 => if x1 = 0 then (c_X11_answer_b42 F cs x0 x1 v_57 0 v_60 v_59) else (Option.bind (gI cs 12 395 x0) fun v_62 => c_X11_answer_b42 F cs x0 x1 v_57 (v_62 * v_57) v_60 v_59)))
theorem cw_X11_X11_answer {R : Room} {s : State} {args : Array Value} {y0 : MethodName} {c0 : ByteArray} {n0 : Nat} {r0 : Option FieldType} (hts : ∀ w ∈ wsOf y0 c0 n0 r0, w.before args s = true) {fr mc ms : Nat} (h1 : fr + 1 ≤ R.frames) (h2 : 8 + (4 + 11) + 60 * fr ≤ R.locals) : CallW R s args RX11 RX11 123 yX11_answer cX11_answer 4 none (wsOf yX11_answer cX11_answer 4 none) ({ frames := fr, cells := mc, slots := ms, locals := 60 * fr } : Room) mc ms 1 := cwV 1 hts (gd_all (in_V kw_1325 kw_1327 kw_65 kw_181 kc_X11_answer)) rfl rfl rfl (by decide +kernel) ⟨h1, h2⟩
theorem mo_c_X11_answer_b14 (F : Nat) (cs1 : CS) (cs9 : CS) (h : c_X11_answer_b14 F cs1 = some cs9) : kK cs1 ≤ kK cs9 ∧ kM cs1 ≤ kM cs9 := by
  unfold c_X11_answer_b14 at h
  have h9 := Option.some.inj h
  have k9 := congrArg kK h9; have m9 := congrArg kM h9; exact ⟨by omega, by omega⟩
theorem mo_c_X11_answer_b175 (F : Nat) (cs1 : CS) (cs9 : CS) (h : c_X11_answer_b175 F cs1 = some cs9) : kK cs1 ≤ kK cs9 ∧ kM cs1 ≤ kM cs9 := by
  unfold c_X11_answer_b175 at h
  have h9 := Option.some.inj h
  have k9 := congrArg kK h9; have m9 := congrArg kM h9; exact ⟨by omega, by omega⟩
theorem mo_c_X11_answer_b139 (F : Nat) (cs1 : CS) (u0 : Nat) (u3 : Int32) (cs9 : CS) (h : c_X11_answer_b139 F cs1 u0 u3 = some cs9) : kK cs1 ≤ kK cs9 ∧ kM cs1 ≤ kM cs9 := by
  unfold c_X11_answer_b139 at h
  replace h := ob h; obtain ⟨v_53, hv_53, h⟩ := h
  replace h := ob h; obtain ⟨v_54, hv_54, h⟩ := h
  replace h := ob h; obtain ⟨v_55, hv_55, h⟩ := h
  replace h := ob h; obtain ⟨i_56, hi_56, h⟩ := h
  subst hi_56
  replace h := ob h; obtain ⟨i_57, hi_57, h⟩ := h
  subst hi_57
  replace h := ob h; obtain ⟨w_59, hw_59, h⟩ := h
  replace h := ob h; obtain ⟨cs_58, hv_58, h⟩ := h
  obtain ⟨qk_58, qm_58⟩ := k_of (mo_c_X11_tellChanges F cs1 u0 i_57 u3 i_56 v_55 (-1) cs_58 hv_58)
  replace h := ob h; obtain ⟨v_60, hv_60, h⟩ := h
  replace h := ob h; obtain ⟨v_61, hv_61, h⟩ := h
  replace h := ob h; obtain ⟨v_62, hv_62, h⟩ := h
  replace h := ob h; obtain ⟨i_63, hi_63, h⟩ := h
  subst hi_63
  replace h := ob h; obtain ⟨i_64, hi_64, h⟩ := h
  subst hi_64
  replace h := ob h; obtain ⟨w_66, hw_66, h⟩ := h
  replace h := ob h; obtain ⟨cs_65, hv_65, h⟩ := h
  obtain ⟨qk_65, qm_65⟩ := k_of (mo_c_X11_tellChanges F cs_58 u0 i_64 v_61 i_63 u3 1 cs_65 hv_65)
  obtain ⟨k9, m9⟩ := mo_c_X11_answer_b175 F cs_65 cs9 h
  exact ⟨by omega, by omega⟩
theorem mo_c_X11_answer_b125 (F : Nat) (cs1 : CS) (u0 : Nat) (u1 : Int32) (u3 : Int32) (cs9 : CS) (h : c_X11_answer_b125 F cs1 u0 u1 u3 = some cs9) : kK cs1 ≤ kK cs9 ∧ kM cs1 ≤ kM cs9 := by
  unfold c_X11_answer_b125 at h
  by_cases c_53 : u1 = 0
  · skip
    replace h := (if_pos c_53).symm.trans h
    obtain ⟨k9, m9⟩ := mo_c_X11_answer_b175 F cs1 cs9 h
    exact ⟨by omega, by omega⟩
  · skip
    replace h := (if_neg c_53).symm.trans h
    replace h := ob h; obtain ⟨v_54, hv_54, h⟩ := h
    replace h := ob h; obtain ⟨w_56, hw_56, h⟩ := h
    replace h := ob h; obtain ⟨cs_55, hv_55, h⟩ := h
    obtain ⟨qk_55, qm_55⟩ := mo_c_X11_makeRoomForChanges F cs1 u0 (u3 + v_54) cs_55 hv_55
    obtain ⟨k9, m9⟩ := mo_c_X11_answer_b139 F cs_55 u0 u3 cs9 h
    exact ⟨by omega, by omega⟩
theorem mo_c_X11_answer_b111 (F : Nat) (cs1 : CS) (u0 : Nat) (u1 : Int32) (u2 : Int32) (u3 : Int32) (cs9 : CS) (h : c_X11_answer_b111 F cs1 u0 u1 u2 u3 = some cs9) : kK cs1 ≤ kK cs9 ∧ kM cs1 ≤ kM cs9 := by
  unfold c_X11_answer_b111 at h
  replace h := ob h; obtain ⟨v_53, hv_53, h⟩ := h
  replace h := ob h; obtain ⟨v_54, hv_54, h⟩ := h
  replace h := ob h; obtain ⟨i_56, hi_56, h⟩ := h
  subst hi_56
  replace h := ob h; obtain ⟨w_57, hw_57, h⟩ := h
  replace h := ob h; obtain ⟨cs_55, hv_55, h⟩ := h
  obtain ⟨qk_55, qm_55⟩ := mo_c_X8_sort F cs1 i_56 0 v_54 u2 0 cs_55 hv_55
  obtain ⟨k9, m9⟩ := mo_c_X11_answer_b125 F cs_55 u0 u1 u3 cs9 h
  exact ⟨by omega, by omega⟩
theorem mo_c_X11_answer_b94 (F : Nat) (cs1 : CS) (u0 : Nat) (u1 : Int32) (u2 : Int32) (u3 : Int32) (cs9 : CS) (h : c_X11_answer_b94 F cs1 u0 u1 u2 u3 = some cs9) : kK cs1 ≤ kK cs9 ∧ kM cs1 ≤ kM cs9 := by
  unfold c_X11_answer_b94 at h
  replace h := ob h; obtain ⟨v_53, hv_53, h⟩ := h
  replace h := ob h; obtain ⟨v_54, hv_54, h⟩ := h
  replace h := ob h; obtain ⟨v_55, hv_55, h⟩ := h
  replace h := ob h; obtain ⟨i_56, hi_56, h⟩ := h
  subst hi_56
  replace h := ob h; obtain ⟨i_58, hi_58, h⟩ := h
  subst hi_58
  replace h := ob h; obtain ⟨w_59, hw_59, h⟩ := h
  replace h := ob h; obtain ⟨cs_57, hv_57, h⟩ := h
  obtain ⟨qk_57, qm_57⟩ := mo_c_X8_take F cs1 i_58 i_56 (v_55 * u2) cs_57 hv_57
  obtain ⟨k9, m9⟩ := mo_c_X11_answer_b111 F cs_57 u0 u1 u2 u3 cs9 h
  exact ⟨by omega, by omega⟩
theorem mo_c_X11_answer_b74 (F : Nat) (cs1 : CS) (u0 : Nat) (u1 : Int32) (u2 : Int32) (u3 : Int32) (y0 : Int32) (y1 : Nat) (cs9 : CS) (h : c_X11_answer_b74 F cs1 u0 u1 u2 u3 y0 y1 = some cs9) : kK cs1 ≤ kK cs9 ∧ kM cs1 ≤ kM cs9 := by
  unfold c_X11_answer_b74 at h
  replace h := ob h; obtain ⟨cs_53, hv_53, h⟩ := h
  obtain ⟨qk_53, qm_53⟩ := pI_k hv_53
  replace h := ob h; obtain ⟨v_54, hv_54, h⟩ := h
  replace h := ob h; obtain ⟨v_55, hv_55, h⟩ := h
  replace h := ob h; obtain ⟨v_56, hv_56, h⟩ := h
  replace h := ob h; obtain ⟨i_57, hi_57, h⟩ := h
  subst hi_57
  replace h := ob h; obtain ⟨i_59, hi_59, h⟩ := h
  subst hi_59
  replace h := ob h; obtain ⟨w_60, hw_60, h⟩ := h
  replace h := ob h; obtain ⟨cs_58, hv_58, h⟩ := h
  obtain ⟨qk_58, qm_58⟩ := mo_c_X8_take F cs_53 i_59 i_57 (v_56 * u2) cs_58 hv_58
  obtain ⟨k9, m9⟩ := mo_c_X11_answer_b94 F cs_58 u0 u1 u2 u3 cs9 h
  exact ⟨by omega, by omega⟩
theorem mo_c_X11_answer_b57 (F : Nat) (cs1 : CS) (u0 : Nat) (u1 : Int32) (u2 : Int32) (y0 : Int32) (cs9 : CS) (h : c_X11_answer_b57 F cs1 u0 u1 u2 y0 = some cs9) : kK cs1 ≤ kK cs9 ∧ kM cs1 ≤ kM cs9 := by
  unfold c_X11_answer_b57 at h
  replace h := ob h; obtain ⟨v_53, hv_53, h⟩ := h
  replace h := ob h; obtain ⟨v_54, hv_54, h⟩ := h
  replace h := ob h; obtain ⟨i_55, hi_55, h⟩ := h
  subst hi_55
  replace h := ob h; obtain ⟨v_56, hv_56, h⟩ := h
  replace h := ob h; obtain ⟨i_57, hi_57, h⟩ := h
  subst hi_57
  replace h := ob h; obtain ⟨i_59, hi_59, h⟩ := h
  subst hi_59
  replace h := ob h; obtain ⟨w_60, hw_60, h⟩ := h
  replace h := ob h; obtain ⟨z_58, hv_58, h⟩ := h
  obtain ⟨qk_58, qm_58⟩ := mo_c_X4_runQuery F 300 cs1 i_59 i_57 0 z_58.1 z_58.2 hv_58
  obtain ⟨k9, m9⟩ := mo_c_X11_answer_b74 F z_58.1 u0 u1 u2 y0 z_58.2 u0 cs9 h
  exact ⟨by omega, by omega⟩
theorem mo_c_X11_answer_b45 (F : Nat) (cs1 : CS) (u0 : Nat) (u1 : Int32) (u2 : Int32) (cs9 : CS) (h : c_X11_answer_b45 F cs1 u0 u1 u2 = some cs9) : kK cs1 ≤ kK cs9 ∧ kM cs1 ≤ kM cs9 := by
  unfold c_X11_answer_b45 at h
  by_cases c_53 : u1 = 0
  · skip
    replace h := (if_pos c_53).symm.trans h
    obtain ⟨k9, m9⟩ := mo_c_X11_answer_b57 F cs1 u0 u1 u2 0 cs9 h
    exact ⟨by omega, by omega⟩
  · skip
    replace h := (if_neg c_53).symm.trans h
    replace h := ob h; obtain ⟨v_54, hv_54, h⟩ := h
    obtain ⟨k9, m9⟩ := mo_c_X11_answer_b57 F cs1 u0 u1 u2 v_54 cs9 h
    exact ⟨by omega, by omega⟩
theorem mo_c_X11_answer_b42 (F : Nat) (cs1 : CS) (u0 : Nat) (u1 : Int32) (u2 : Int32) (y0 : Int32) (y1 : Option Nat) (y2 : Option Nat) (cs9 : CS) (h : c_X11_answer_b42 F cs1 u0 u1 u2 y0 y1 y2 = some cs9) : kK cs1 ≤ kK cs9 ∧ kM cs1 ≤ kM cs9 := by
  unfold c_X11_answer_b42 at h
  replace h := ob h; obtain ⟨i_53, hi_53, h⟩ := h
  subst hi_53
  replace h := ob h; obtain ⟨i_55, hi_55, h⟩ := h
  subst hi_55
  replace h := ob h; obtain ⟨w_56, hw_56, h⟩ := h
  replace h := ob h; obtain ⟨cs_54, hv_54, h⟩ := h
  obtain ⟨qk_54, qm_54⟩ := mo_c_X8_take F cs1 i_55 i_53 y0 cs_54 hv_54
  obtain ⟨k9, m9⟩ := mo_c_X11_answer_b45 F cs_54 u0 u1 u2 cs9 h
  exact ⟨by omega, by omega⟩
theorem mo_c_X11_answer (F : Nat) (cs : CS) (x0 : Nat) (x1 : Int32) (cs9 : CS) (h : c_X11_answer F cs x0 x1 = some cs9) : kK cs ≤ kK cs9 ∧ kM cs ≤ kM cs9 := by
  unfold c_X11_answer at h
  replace h := ob h; obtain ⟨v_53, hv_53, h⟩ := h
  cases v_53 with
  | none =>
    replace h := oc_n.symm.trans h
    obtain ⟨k9, m9⟩ := mo_c_X11_answer_b14 F cs cs9 h
    exact ⟨by omega, by omega⟩
  | some i_54 =>
    replace h := oc_s.symm.trans h
    replace h := ob h; obtain ⟨v_55, hv_55, h⟩ := h
    cases v_55 with
    | none =>
      replace h := oc_n.symm.trans h
      obtain ⟨k9, m9⟩ := mo_c_X11_answer_b14 F cs cs9 h
      exact ⟨by omega, by omega⟩
    | some i_56 =>
      replace h := oc_s.symm.trans h
      replace h := ob h; obtain ⟨w_58, hw_58, h⟩ := h
      replace h := ob h; obtain ⟨v_57, hv_57, h⟩ := h
      replace h := ob h; obtain ⟨v_59, hv_59, h⟩ := h
      replace h := ob h; obtain ⟨v_60, hv_60, h⟩ := h
      by_cases c_61 : x1 = 0
      · skip
        replace h := (if_pos c_61).symm.trans h
        obtain ⟨k9, m9⟩ := mo_c_X11_answer_b42 F cs x0 x1 v_57 0 v_60 v_59 cs9 h
        exact ⟨by omega, by omega⟩
      · skip
        replace h := (if_neg c_61).symm.trans h
        replace h := ob h; obtain ⟨v_62, hv_62, h⟩ := h
        obtain ⟨k9, m9⟩ := mo_c_X11_answer_b42 F cs x0 x1 v_57 (v_62 * v_57) v_60 v_59 cs9 h
        exact ⟨by omega, by omega⟩
set_option maxHeartbeats 4000000 in
set_option maxRecDepth 100000 in
theorem sa_X11_answer (l : Launch) (dC : Nat → ClassId) (dI : Nat → Nat → Nat) (cB cI cJ cZ cS cO : ClassId) (b : Nat) (K V : Nat → Nat) (fz : Value) (F : Nat) (cs : CS) (x0 : Nat) (x1 : Int32) (cs9 : CS) (hf : c_X11_answer F cs x0 x1 = some cs9) : oaV l dC dI cB cI cJ cZ cS cO b K V fz yX11_answer (wsOf yX11_answer cX11_answer 4 none) (308) [.ref (b + x0), .int x1] cs cs9 := by
  obtain ⟨kb9, mb9⟩ := mo_c_X11_answer F cs x0 x1 cs9 hf
  refine ⟨⟨kb9, mb9⟩, ?_⟩
  refine Met.ofW (cc := cX11_answer) (maxL := 4) (ret := none) (by decide) rfl ?_
  intro p e s m args below meth c s₁ B hml hv
  obtain ⟨rfl, hsz, hP, hK, hD0, hZ⟩ := hv
  have hx := B.exec
  have hb := B.bytes
  have hr := B.returns
  have hts := atoms_spec (ws := (wsOf yX11_answer cX11_answer 4 none)) B.pre
  have hown : s.vm.findClass RX11 = some m.cls := findClass_of_methodNamed B.named
  have hlocks := B.notSynchronized
  have hD := hD0.self (sz := b + kK cs)
  generalize hAe : va_A (cW cB cI cJ cZ cS cO b cs) (b + kK cs) = A at hD hZ ⊢
  have hA : ∀ q : Nat, s.heap.size ≤ q → A q := fun q h => by rw [← hAe]; exact Or.inr (by omega)
  have hS : va_S A s.heap s.heap [] := va_S.rf
  have hG : va_S A s.heap s.heap [] := va_S.rf
  have hgz : s.heap.size = b + kK cs := hsz
  have hl := lv_entry ([.ref (b + x0), .int x1]) (n := 4) (Nat.le_of_ble_eq_true rfl)
  rw [lg_entry_eq]
  generalize (lg_sl ([.ref (b + x0), .int x1]) ++ List.replicate (4 - (lg_sl ([.ref (b + x0), .int x1])).length) Slot.unset).toArray = ls at hl ⊢
  have hl : lv_has ls 4 [(0, .ref (b + x0)), (1, .int x1)] := hl
  have B_14 : ∀ (cs1 : CS) , c_X11_answer_b14 F cs1 = some cs9 → kK cs ≤ kK cs1 → kM cs ≤ kM cs1 → ∀ (Gh H : Heap) (locs : List Loc) (ls : Array Slot), va_P (dC, dI) vwCl (cW cB cI cJ cZ cS cO b cs1) H → va_D A (cW cB cI cJ cZ cS cO b cs1) → va_S A s.heap Gh [] → Gh.size = b + kK cs1 → va_S A Gh H locs → lv_has ls 4 [] → W p l e (headSpec (wsOf yX11_answer cX11_answer 4 none) ({ frames := 308, cells := kK cs9 - kK cs, slots := kM cs9 - kM cs, locals := 60 * (308) } : Room)).room s m ([.ref (b + x0), .int x1] : List Value).toArray below meth c H locs (kK cs1 - kK cs) (kM cs1 - kM cs) (MQ below (va_Qv (fun (_ : Unit) => True) (fun _ t_ => va_P (dC, dI) vwCl (cW cB cI cJ cZ cS cO b cs9) t_.heap ∧ va_D A (cW cB cI cJ cZ cS cO b cs9) ∧ b + kK cs9 ≤ t_.heap.size) A) ([.ref (b + x0), .int x1] : List Value).toArray s (kK cs9 - kK cs) (kM cs9 - kM cs) A) (F0 m 14 ls []) := by
    intro cs1  h hmk hmm Gh H locs ls hP hD hG hgz hS hl
    obtain ⟨kb9, mb9⟩ := mo_c_X11_answer_b14 F cs1  cs9 h
    unfold c_X11_answer_b14 at h
    have e1 := Option.some.inj h
    rw [e1] at hP hD
    have e3 := congrArg kK e1
    have e4 := congrArg kM e1
    refine W_cnt (c2 := kK cs9 - kK cs) (n2 := kM cs9 - kM cs) (by omega) (by omega) ?_
    exact W.vret hx hb hr (fun t_ ht hW => ⟨⟨(), rfl, trivial, by rw [ht]; exact hP, hD, by rw [ht]; have := hS.1; omega⟩, (hG.comp hS).F ht⟩) (hG.comp hS).2.2 dX11_answer_14
  have B_175 : ∀ (cs1 : CS) , c_X11_answer_b175 F cs1 = some cs9 → kK cs ≤ kK cs1 → kM cs ≤ kM cs1 → ∀ (Gh H : Heap) (locs : List Loc) (ls : Array Slot), va_P (dC, dI) vwCl (cW cB cI cJ cZ cS cO b cs1) H → va_D A (cW cB cI cJ cZ cS cO b cs1) → va_S A s.heap Gh [] → Gh.size = b + kK cs1 → va_S A Gh H locs → lv_has ls 4 [] → W p l e (headSpec (wsOf yX11_answer cX11_answer 4 none) ({ frames := 308, cells := kK cs9 - kK cs, slots := kM cs9 - kM cs, locals := 60 * (308) } : Room)).room s m ([.ref (b + x0), .int x1] : List Value).toArray below meth c H locs (kK cs1 - kK cs) (kM cs1 - kM cs) (MQ below (va_Qv (fun (_ : Unit) => True) (fun _ t_ => va_P (dC, dI) vwCl (cW cB cI cJ cZ cS cO b cs9) t_.heap ∧ va_D A (cW cB cI cJ cZ cS cO b cs9) ∧ b + kK cs9 ≤ t_.heap.size) A) ([.ref (b + x0), .int x1] : List Value).toArray s (kK cs9 - kK cs) (kM cs9 - kM cs) A) (F0 m 175 ls []) := by
    intro cs1  h hmk hmm Gh H locs ls hP hD hG hgz hS hl
    obtain ⟨kb9, mb9⟩ := mo_c_X11_answer_b175 F cs1  cs9 h
    unfold c_X11_answer_b175 at h
    have e1 := Option.some.inj h
    rw [e1] at hP hD
    have e3 := congrArg kK e1
    have e4 := congrArg kM e1
    refine W_cnt (c2 := kK cs9 - kK cs) (n2 := kM cs9 - kM cs) (by omega) (by omega) ?_
    exact W.vret hx hb hr (fun t_ ht hW => ⟨⟨(), rfl, trivial, by rw [ht]; exact hP, hD, by rw [ht]; have := hS.1; omega⟩, (hG.comp hS).F ht⟩) (hG.comp hS).2.2 dX11_answer_175
  have B_139 : ∀ (cs1 : CS) (u0 : Nat) (u3 : Int32), c_X11_answer_b139 F cs1 u0 u3 = some cs9 → kK cs ≤ kK cs1 → kM cs ≤ kM cs1 → ∀ (Gh H : Heap) (locs : List Loc) (ls : Array Slot), va_P (dC, dI) vwCl (cW cB cI cJ cZ cS cO b cs1) H → va_D A (cW cB cI cJ cZ cS cO b cs1) → va_S A s.heap Gh [] → Gh.size = b + kK cs1 → va_S A Gh H locs → lv_has ls 4 [(0, .ref (b + u0)), (3, .int u3)] → W p l e (headSpec (wsOf yX11_answer cX11_answer 4 none) ({ frames := 308, cells := kK cs9 - kK cs, slots := kM cs9 - kM cs, locals := 60 * (308) } : Room)).room s m ([.ref (b + x0), .int x1] : List Value).toArray below meth c H locs (kK cs1 - kK cs) (kM cs1 - kM cs) (MQ below (va_Qv (fun (_ : Unit) => True) (fun _ t_ => va_P (dC, dI) vwCl (cW cB cI cJ cZ cS cO b cs9) t_.heap ∧ va_D A (cW cB cI cJ cZ cS cO b cs9) ∧ b + kK cs9 ≤ t_.heap.size) A) ([.ref (b + x0), .int x1] : List Value).toArray s (kK cs9 - kK cs) (kM cs9 - kM cs) A) (F0 m 139 ls []) := by
    intro cs1 u0 u3 h hmk hmm Gh H locs ls hP hD hG hgz hS hl
    obtain ⟨kb9, mb9⟩ := mo_c_X11_answer_b139 F cs1 u0 u3 cs9 h
    unfold c_X11_answer_b139 at h
    refine lv_aload_n hx hb dX11_answer_139 rfl (lv_at hl 0 rfl) ?_
    refine lv_aload_n hx hb dX11_answer_140 rfl (lv_at hl 0 rfl) ?_
    replace h := ob h; obtain ⟨v_1, hv_1, h⟩ := h
    refine fg_X11_40 hx hb hts hown hK hP hv_1 dX11_answer_141 ?_
    refine lv_iload_n hx hb dX11_answer_144 rfl (lv_at hl 1 rfl) ?_
    refine lv_aload_n hx hb dX11_answer_145 rfl (lv_at hl 0 rfl) ?_
    replace h := ob h; obtain ⟨v_2, hv_2, h⟩ := h
    refine fg_X11_37 hx hb hts hown hK hP hv_2 dX11_answer_146 ?_
    refine lv_aload_n hx hb dX11_answer_149 rfl (lv_at hl 0 rfl) ?_
    replace h := ob h; obtain ⟨v_3, hv_3, h⟩ := h
    refine fg_X11_162 hx hb hts hown hK hP hv_3 dX11_answer_150 ?_
    refine lv_iconst (v := (-1)) hx hb dX11_answer_153 (by decide) ?_
    replace h := ob h; obtain ⟨i_4, hi_4, h⟩ := h
    subst hi_4
    replace h := ob h; obtain ⟨i_5, hi_5, h⟩ := h
    subst hi_5
    replace h := ob h; obtain ⟨w_7, hw_7, h⟩ := h
    replace h := ob h; obtain ⟨cs_6, hv_6, h⟩ := h
    obtain ⟨qk_6, qm_6⟩ := k_of (mo_c_X11_tellChanges F cs1 u0 i_5 u3 i_4 v_3 (-1) cs_6 hv_6)
    refine cbvV (As := [.ref (b + i_5), .int u3, .ref (b + i_4), .int v_3, .int (-1)]) hx hb hml hts hown hK hP hD hS hG hA (by omega) (by omega) hZ (X := 12) (by decide) rfl (ckE_some hw_7) (sc_X11_tellChanges l dC dI cB cI cJ cZ cS cO b K V fz F cs1 u0 i_5 u3 i_4 v_3 (-1) cs_6 hv_6) (cw_X11_X11_tellChanges hts (fr := 3) (Nat.le_of_ble_eq_true rfl) (Nat.le_of_ble_eq_true rfl)) rfl hl.1 (Nat.le_of_ble_eq_true rfl) ⟨by show kK cs1 - kK cs ≤ kK cs9 - kK cs; omega, by show kM cs1 - kM cs ≤ kM cs9 - kM cs; omega⟩ dX11_answer_154 (fun H locs hP hD hG hgz hS => ?_)
    refine lv_aload_n hx hb dX11_answer_157 rfl (lv_at hl 0 rfl) ?_
    refine lv_aload_n hx hb dX11_answer_158 rfl (lv_at hl 0 rfl) ?_
    replace h := ob h; obtain ⟨v_8, hv_8, h⟩ := h
    refine fg_X11_37 hx hb hts hown hK hP hv_8 dX11_answer_159 ?_
    refine lv_aload_n hx hb dX11_answer_162 rfl (lv_at hl 0 rfl) ?_
    replace h := ob h; obtain ⟨v_9, hv_9, h⟩ := h
    refine fg_X11_162 hx hb hts hown hK hP hv_9 dX11_answer_163 ?_
    refine lv_aload_n hx hb dX11_answer_166 rfl (lv_at hl 0 rfl) ?_
    replace h := ob h; obtain ⟨v_10, hv_10, h⟩ := h
    refine fg_X11_40 hx hb hts hown hK hP hv_10 dX11_answer_167 ?_
    refine lv_iload_n hx hb dX11_answer_170 rfl (lv_at hl 1 rfl) ?_
    refine lv_iconst (v := 1) hx hb dX11_answer_171 (by decide) ?_
    replace h := ob h; obtain ⟨i_11, hi_11, h⟩ := h
    subst hi_11
    replace h := ob h; obtain ⟨i_12, hi_12, h⟩ := h
    subst hi_12
    replace h := ob h; obtain ⟨w_14, hw_14, h⟩ := h
    replace h := ob h; obtain ⟨cs_13, hv_13, h⟩ := h
    obtain ⟨qk_13, qm_13⟩ := k_of (mo_c_X11_tellChanges F cs_6 u0 i_12 v_9 i_11 u3 1 cs_13 hv_13)
    refine cbvV (As := [.ref (b + i_12), .int v_9, .ref (b + i_11), .int u3, .int 1]) hx hb hml hts hown hK hP hD hS hG hA (by omega) (by omega) hZ (X := 12) (by decide) rfl (ckE_some hw_14) (sc_X11_tellChanges l dC dI cB cI cJ cZ cS cO b K V fz F cs_6 u0 i_12 v_9 i_11 u3 1 cs_13 hv_13) (cw_X11_X11_tellChanges hts (fr := 3) (Nat.le_of_ble_eq_true rfl) (Nat.le_of_ble_eq_true rfl)) rfl hl.1 (Nat.le_of_ble_eq_true rfl) ⟨by show kK cs1 - kK cs ≤ kK cs9 - kK cs; omega, by show kM cs1 - kM cs ≤ kM cs9 - kM cs; omega⟩ dX11_answer_172 (fun H locs hP hD hG hgz hS => ?_)
    refine W_cnt (c2 := kK cs_13 - kK cs) (n2 := kM cs_13 - kM cs) (by omega) (by omega) ?_
    exact B_175 cs_13 h (by omega) (by omega) _ _ _ _ hP hD hG (by omega) hS (lv_sub hl [] rfl)
  have B_125 : ∀ (cs1 : CS) (u0 : Nat) (u1 : Int32) (u3 : Int32), c_X11_answer_b125 F cs1 u0 u1 u3 = some cs9 → kK cs ≤ kK cs1 → kM cs ≤ kM cs1 → ∀ (Gh H : Heap) (locs : List Loc) (ls : Array Slot), va_P (dC, dI) vwCl (cW cB cI cJ cZ cS cO b cs1) H → va_D A (cW cB cI cJ cZ cS cO b cs1) → va_S A s.heap Gh [] → Gh.size = b + kK cs1 → va_S A Gh H locs → lv_has ls 4 [(0, .ref (b + u0)), (1, .int u1), (3, .int u3)] → W p l e (headSpec (wsOf yX11_answer cX11_answer 4 none) ({ frames := 308, cells := kK cs9 - kK cs, slots := kM cs9 - kM cs, locals := 60 * (308) } : Room)).room s m ([.ref (b + x0), .int x1] : List Value).toArray below meth c H locs (kK cs1 - kK cs) (kM cs1 - kM cs) (MQ below (va_Qv (fun (_ : Unit) => True) (fun _ t_ => va_P (dC, dI) vwCl (cW cB cI cJ cZ cS cO b cs9) t_.heap ∧ va_D A (cW cB cI cJ cZ cS cO b cs9) ∧ b + kK cs9 ≤ t_.heap.size) A) ([.ref (b + x0), .int x1] : List Value).toArray s (kK cs9 - kK cs) (kM cs9 - kM cs) A) (F0 m 125 ls []) := by
    intro cs1 u0 u1 u3 h hmk hmm Gh H locs ls hP hD hG hgz hS hl
    obtain ⟨kb9, mb9⟩ := mo_c_X11_answer_b125 F cs1 u0 u1 u3 cs9 h
    unfold c_X11_answer_b125 at h
    refine lv_iload_n hx hb dX11_answer_125 rfl (lv_at hl 1 rfl) ?_
    refine lv_if_eq (tgt := 175) hx hb dX11_answer_126 (by decide) (fun c_15 => ?_) (fun c_15 => ?_)
    · skip
      replace h := (if_pos c_15).symm.trans h
      refine W_cnt (c2 := kK cs1 - kK cs) (n2 := kM cs1 - kM cs) (by omega) (by omega) ?_
      exact B_175 cs1 h (by omega) (by omega) _ _ _ _ hP hD hG (by omega) hS (lv_sub hl [] rfl)
    · skip
      replace h := (if_neg c_15).symm.trans h
      refine lv_aload_n hx hb dX11_answer_129 rfl (lv_at hl 0 rfl) ?_
      refine lv_iload_n hx hb dX11_answer_130 rfl (lv_at hl 2 rfl) ?_
      refine lv_aload_n hx hb dX11_answer_131 rfl (lv_at hl 0 rfl) ?_
      replace h := ob h; obtain ⟨v_16, hv_16, h⟩ := h
      refine fg_X11_162 hx hb hts hown hK hP hv_16 dX11_answer_132 ?_
      refine lv_iadd hx hb dX11_answer_135 ?_
      replace h := ob h; obtain ⟨w_18, hw_18, h⟩ := h
      replace h := ob h; obtain ⟨cs_17, hv_17, h⟩ := h
      obtain ⟨qk_17, qm_17⟩ := mo_c_X11_makeRoomForChanges F cs1 u0 (u3 + v_16) cs_17 hv_17
      obtain ⟨k9_17, m9_17⟩ := mo_c_X11_answer_b139 F cs_17 u0 u3 cs9 h
      refine cavV (As := [.int (u3 + v_16)]) hx hb hml hts hown hK hP hD hS hG hA (by omega) (by omega) hZ (X := 12) (by decide) rfl (ckE_some hw_18) (sa_X11_makeRoomForChanges l dC dI cB cI cJ cZ cS cO b K V fz F cs1 u0 (u3 + v_16) cs_17 hv_17) (cw_X11_X11_makeRoomForChanges hts (fr := 0) (Nat.le_of_ble_eq_true rfl) (Nat.le_of_ble_eq_true rfl)) rfl hl.1 (Nat.le_of_ble_eq_true rfl) ⟨by show kK cs1 - kK cs + (kK cs_17 - kK cs1) ≤ kK cs9 - kK cs; omega, by show kM cs1 - kM cs + (kM cs_17 - kM cs1) ≤ kM cs9 - kM cs; omega⟩ dX11_answer_136 (fun H locs hP hD hG hgz hS => ?_)
      refine W_cnt (c2 := kK cs_17 - kK cs) (n2 := kM cs_17 - kM cs) (by omega) (by omega) ?_
      exact B_139 cs_17 u0 u3 h (by omega) (by omega) _ _ _ _ hP hD hG (by omega) hS (lv_sub hl [0, 2] rfl)
  have B_111 : ∀ (cs1 : CS) (u0 : Nat) (u1 : Int32) (u2 : Int32) (u3 : Int32), c_X11_answer_b111 F cs1 u0 u1 u2 u3 = some cs9 → kK cs ≤ kK cs1 → kM cs ≤ kM cs1 → ∀ (Gh H : Heap) (locs : List Loc) (ls : Array Slot), va_P (dC, dI) vwCl (cW cB cI cJ cZ cS cO b cs1) H → va_D A (cW cB cI cJ cZ cS cO b cs1) → va_S A s.heap Gh [] → Gh.size = b + kK cs1 → va_S A Gh H locs → lv_has ls 4 [(0, .ref (b + u0)), (1, .int u1), (2, .int u2), (3, .int u3)] → W p l e (headSpec (wsOf yX11_answer cX11_answer 4 none) ({ frames := 308, cells := kK cs9 - kK cs, slots := kM cs9 - kM cs, locals := 60 * (308) } : Room)).room s m ([.ref (b + x0), .int x1] : List Value).toArray below meth c H locs (kK cs1 - kK cs) (kM cs1 - kM cs) (MQ below (va_Qv (fun (_ : Unit) => True) (fun _ t_ => va_P (dC, dI) vwCl (cW cB cI cJ cZ cS cO b cs9) t_.heap ∧ va_D A (cW cB cI cJ cZ cS cO b cs9) ∧ b + kK cs9 ≤ t_.heap.size) A) ([.ref (b + x0), .int x1] : List Value).toArray s (kK cs9 - kK cs) (kM cs9 - kM cs) A) (F0 m 111 ls []) := by
    intro cs1 u0 u1 u2 u3 h hmk hmm Gh H locs ls hP hD hG hgz hS hl
    obtain ⟨kb9, mb9⟩ := mo_c_X11_answer_b111 F cs1 u0 u1 u2 u3 cs9 h
    unfold c_X11_answer_b111 at h
    refine lv_aload_n hx hb dX11_answer_111 rfl (lv_at hl 0 rfl) ?_
    replace h := ob h; obtain ⟨v_19, hv_19, h⟩ := h
    refine fg_X11_37 hx hb hts hown hK hP hv_19 dX11_answer_112 ?_
    refine lv_iconst (v := 0) hx hb dX11_answer_115 (by decide) ?_
    refine lv_aload_n hx hb dX11_answer_116 rfl (lv_at hl 0 rfl) ?_
    replace h := ob h; obtain ⟨v_20, hv_20, h⟩ := h
    refine fg_X11_162 hx hb hts hown hK hP hv_20 dX11_answer_117 ?_
    refine lv_iload_n hx hb dX11_answer_120 rfl (lv_at hl 2 rfl) ?_
    refine lv_iconst (v := 0) hx hb dX11_answer_121 (by decide) ?_
    replace h := ob h; obtain ⟨i_22, hi_22, h⟩ := h
    subst hi_22
    replace h := ob h; obtain ⟨w_23, hw_23, h⟩ := h
    replace h := ob h; obtain ⟨cs_21, hv_21, h⟩ := h
    obtain ⟨qk_21, qm_21⟩ := mo_c_X8_sort F cs1 i_22 0 v_20 u2 0 cs_21 hv_21
    obtain ⟨k9_21, m9_21⟩ := mo_c_X11_answer_b125 F cs_21 u0 u1 u3 cs9 h
    refine cavV (As := [.int 0, .int v_20, .int u2, .int 0]) hx hb hml hts hown hK hP hD hS hG hA (by omega) (by omega) hZ (X := 9) (by decide) rfl (ckE_some hw_23) (sa_X8_sort l dC dI cB cI cJ cZ cS cO b K V fz F cs1 i_22 0 v_20 u2 0 cs_21 hv_21) (cw_X11_X8_sort hts (fr := 5) (Nat.le_of_ble_eq_true rfl) (Nat.le_of_ble_eq_true rfl)) rfl hl.1 (Nat.le_of_ble_eq_true rfl) ⟨by show kK cs1 - kK cs + (kK cs_21 - kK cs1) ≤ kK cs9 - kK cs; omega, by show kM cs1 - kM cs + (kM cs_21 - kM cs1) ≤ kM cs9 - kM cs; omega⟩ dX11_answer_122 (fun H locs hP hD hG hgz hS => ?_)
    refine W_cnt (c2 := kK cs_21 - kK cs) (n2 := kM cs_21 - kM cs) (by omega) (by omega) ?_
    exact B_125 cs_21 u0 u1 u3 h (by omega) (by omega) _ _ _ _ hP hD hG (by omega) hS (lv_sub hl [0, 1, 3] rfl)
  have B_94 : ∀ (cs1 : CS) (u0 : Nat) (u1 : Int32) (u2 : Int32) (u3 : Int32), c_X11_answer_b94 F cs1 u0 u1 u2 u3 = some cs9 → kK cs ≤ kK cs1 → kM cs ≤ kM cs1 → ∀ (Gh H : Heap) (locs : List Loc) (ls : Array Slot), va_P (dC, dI) vwCl (cW cB cI cJ cZ cS cO b cs1) H → va_D A (cW cB cI cJ cZ cS cO b cs1) → va_S A s.heap Gh [] → Gh.size = b + kK cs1 → va_S A Gh H locs → lv_has ls 4 [(0, .ref (b + u0)), (1, .int u1), (2, .int u2), (3, .int u3)] → W p l e (headSpec (wsOf yX11_answer cX11_answer 4 none) ({ frames := 308, cells := kK cs9 - kK cs, slots := kM cs9 - kM cs, locals := 60 * (308) } : Room)).room s m ([.ref (b + x0), .int x1] : List Value).toArray below meth c H locs (kK cs1 - kK cs) (kM cs1 - kM cs) (MQ below (va_Qv (fun (_ : Unit) => True) (fun _ t_ => va_P (dC, dI) vwCl (cW cB cI cJ cZ cS cO b cs9) t_.heap ∧ va_D A (cW cB cI cJ cZ cS cO b cs9) ∧ b + kK cs9 ≤ t_.heap.size) A) ([.ref (b + x0), .int x1] : List Value).toArray s (kK cs9 - kK cs) (kM cs9 - kM cs) A) (F0 m 94 ls []) := by
    intro cs1 u0 u1 u2 u3 h hmk hmm Gh H locs ls hP hD hG hgz hS hl
    obtain ⟨kb9, mb9⟩ := mo_c_X11_answer_b94 F cs1 u0 u1 u2 u3 cs9 h
    unfold c_X11_answer_b94 at h
    refine lv_aload_n hx hb dX11_answer_94 rfl (lv_at hl 0 rfl) ?_
    replace h := ob h; obtain ⟨v_24, hv_24, h⟩ := h
    refine fg_X11_37 hx hb hts hown hK hP hv_24 dX11_answer_95 ?_
    refine lv_aload_n hx hb dX11_answer_98 rfl (lv_at hl 0 rfl) ?_
    replace h := ob h; obtain ⟨v_25, hv_25, h⟩ := h
    refine fg_X11_30 hx hb hts hown hK hP hv_25 dX11_answer_99 ?_
    refine lv_aload_n hx hb dX11_answer_102 rfl (lv_at hl 0 rfl) ?_
    replace h := ob h; obtain ⟨v_26, hv_26, h⟩ := h
    refine fg_X11_162 hx hb hts hown hK hP hv_26 dX11_answer_103 ?_
    refine lv_iload_n hx hb dX11_answer_106 rfl (lv_at hl 2 rfl) ?_
    refine lv_imul hx hb dX11_answer_107 ?_
    replace h := ob h; obtain ⟨i_27, hi_27, h⟩ := h
    subst hi_27
    replace h := ob h; obtain ⟨i_29, hi_29, h⟩ := h
    subst hi_29
    replace h := ob h; obtain ⟨w_30, hw_30, h⟩ := h
    replace h := ob h; obtain ⟨cs_28, hv_28, h⟩ := h
    obtain ⟨qk_28, qm_28⟩ := mo_c_X8_take F cs1 i_29 i_27 (v_26 * u2) cs_28 hv_28
    obtain ⟨k9_28, m9_28⟩ := mo_c_X11_answer_b111 F cs_28 u0 u1 u2 u3 cs9 h
    refine cavV (As := [.ref (b + i_27), .int (v_26 * u2)]) hx hb hml hts hown hK hP hD hS hG hA (by omega) (by omega) hZ (X := 9) (by decide) rfl (ckE_some hw_30) (sa_X8_take l dC dI cB cI cJ cZ cS cO b K V fz F cs1 i_29 i_27 (v_26 * u2) cs_28 hv_28) (cw_X11_X8_take hts (fr := 4) (Nat.le_of_ble_eq_true rfl) (Nat.le_of_ble_eq_true rfl)) rfl hl.1 (Nat.le_of_ble_eq_true rfl) ⟨by show kK cs1 - kK cs + (kK cs_28 - kK cs1) ≤ kK cs9 - kK cs; omega, by show kM cs1 - kM cs + (kM cs_28 - kM cs1) ≤ kM cs9 - kM cs; omega⟩ dX11_answer_108 (fun H locs hP hD hG hgz hS => ?_)
    refine W_cnt (c2 := kK cs_28 - kK cs) (n2 := kM cs_28 - kM cs) (by omega) (by omega) ?_
    exact B_111 cs_28 u0 u1 u2 u3 h (by omega) (by omega) _ _ _ _ hP hD hG (by omega) hS (lv_sub hl [0, 1, 2, 3] rfl)
  have B_74 : ∀ (cs1 : CS) (u0 : Nat) (u1 : Int32) (u2 : Int32) (u3 : Int32) (y0 : Int32) (y1 : Nat), c_X11_answer_b74 F cs1 u0 u1 u2 u3 y0 y1 = some cs9 → kK cs ≤ kK cs1 → kM cs ≤ kM cs1 → ∀ (Gh H : Heap) (locs : List Loc) (ls : Array Slot), va_P (dC, dI) vwCl (cW cB cI cJ cZ cS cO b cs1) H → va_D A (cW cB cI cJ cZ cS cO b cs1) → va_S A s.heap Gh [] → Gh.size = b + kK cs1 → va_S A Gh H locs → lv_has ls 4 [(0, .ref (b + u0)), (1, .int u1), (2, .int u2), (3, .int u3)] → W p l e (headSpec (wsOf yX11_answer cX11_answer 4 none) ({ frames := 308, cells := kK cs9 - kK cs, slots := kM cs9 - kM cs, locals := 60 * (308) } : Room)).room s m ([.ref (b + x0), .int x1] : List Value).toArray below meth c H locs (kK cs1 - kK cs) (kM cs1 - kM cs) (MQ below (va_Qv (fun (_ : Unit) => True) (fun _ t_ => va_P (dC, dI) vwCl (cW cB cI cJ cZ cS cO b cs9) t_.heap ∧ va_D A (cW cB cI cJ cZ cS cO b cs9) ∧ b + kK cs9 ≤ t_.heap.size) A) ([.ref (b + x0), .int x1] : List Value).toArray s (kK cs9 - kK cs) (kM cs9 - kM cs) A) (F0 m 74 ls [.int y0, .ref (b + y1)]) := by
    intro cs1 u0 u1 u2 u3 y0 y1 h hmk hmm Gh H locs ls hP hD hG hgz hS hl
    obtain ⟨kb9, mb9⟩ := mo_c_X11_answer_b74 F cs1 u0 u1 u2 u3 y0 y1 cs9 h
    unfold c_X11_answer_b74 at h
    replace h := ob h; obtain ⟨cs_31, hv_31, h⟩ := h
    obtain ⟨qk_31, qm_31⟩ := pI_k hv_31
    refine fp_X11_162 hx hb hts hown hK hP hD hS hv_31 dX11_answer_74 (fun H locs hP hD hS => ?_)
    refine lv_aload_n hx hb dX11_answer_77 rfl (lv_at hl 0 rfl) ?_
    replace h := ob h; obtain ⟨v_32, hv_32, h⟩ := h
    refine fg_X11_34 hx hb hts hown hK hP hv_32 dX11_answer_78 ?_
    refine lv_aload_n hx hb dX11_answer_81 rfl (lv_at hl 0 rfl) ?_
    replace h := ob h; obtain ⟨v_33, hv_33, h⟩ := h
    refine fg_X11_30 hx hb hts hown hK hP hv_33 dX11_answer_82 ?_
    refine lv_aload_n hx hb dX11_answer_85 rfl (lv_at hl 0 rfl) ?_
    replace h := ob h; obtain ⟨v_34, hv_34, h⟩ := h
    refine fg_X11_162 hx hb hts hown hK hP hv_34 dX11_answer_86 ?_
    refine lv_iload_n hx hb dX11_answer_89 rfl (lv_at hl 2 rfl) ?_
    refine lv_imul hx hb dX11_answer_90 ?_
    replace h := ob h; obtain ⟨i_35, hi_35, h⟩ := h
    subst hi_35
    replace h := ob h; obtain ⟨i_37, hi_37, h⟩ := h
    subst hi_37
    replace h := ob h; obtain ⟨w_38, hw_38, h⟩ := h
    replace h := ob h; obtain ⟨cs_36, hv_36, h⟩ := h
    obtain ⟨qk_36, qm_36⟩ := mo_c_X8_take F cs_31 i_37 i_35 (v_34 * u2) cs_36 hv_36
    obtain ⟨k9_36, m9_36⟩ := mo_c_X11_answer_b94 F cs_36 u0 u1 u2 u3 cs9 h
    refine cavV (As := [.ref (b + i_35), .int (v_34 * u2)]) hx hb hml hts hown hK hP hD hS hG hA (by omega) (by omega) hZ (X := 9) (by decide) rfl (ckE_some hw_38) (sa_X8_take l dC dI cB cI cJ cZ cS cO b K V fz F cs_31 i_37 i_35 (v_34 * u2) cs_36 hv_36) (cw_X11_X8_take hts (fr := 4) (Nat.le_of_ble_eq_true rfl) (Nat.le_of_ble_eq_true rfl)) rfl hl.1 (Nat.le_of_ble_eq_true rfl) ⟨by show kK cs1 - kK cs + (kK cs_36 - kK cs_31) ≤ kK cs9 - kK cs; omega, by show kM cs1 - kM cs + (kM cs_36 - kM cs_31) ≤ kM cs9 - kM cs; omega⟩ dX11_answer_91 (fun H locs hP hD hG hgz hS => ?_)
    refine W_cnt (c2 := kK cs_36 - kK cs) (n2 := kM cs_36 - kM cs) (by omega) (by omega) ?_
    exact B_94 cs_36 u0 u1 u2 u3 h (by omega) (by omega) _ _ _ _ hP hD hG (by omega) hS (lv_sub hl [0, 1, 2, 3] rfl)
  have B_57 : ∀ (cs1 : CS) (u0 : Nat) (u1 : Int32) (u2 : Int32) (y0 : Int32), c_X11_answer_b57 F cs1 u0 u1 u2 y0 = some cs9 → kK cs ≤ kK cs1 → kM cs ≤ kM cs1 → ∀ (Gh H : Heap) (locs : List Loc) (ls : Array Slot), va_P (dC, dI) vwCl (cW cB cI cJ cZ cS cO b cs1) H → va_D A (cW cB cI cJ cZ cS cO b cs1) → va_S A s.heap Gh [] → Gh.size = b + kK cs1 → va_S A Gh H locs → lv_has ls 4 [(0, .ref (b + u0)), (1, .int u1), (2, .int u2)] → W p l e (headSpec (wsOf yX11_answer cX11_answer 4 none) ({ frames := 308, cells := kK cs9 - kK cs, slots := kM cs9 - kM cs, locals := 60 * (308) } : Room)).room s m ([.ref (b + x0), .int x1] : List Value).toArray below meth c H locs (kK cs1 - kK cs) (kM cs1 - kM cs) (MQ below (va_Qv (fun (_ : Unit) => True) (fun _ t_ => va_P (dC, dI) vwCl (cW cB cI cJ cZ cS cO b cs9) t_.heap ∧ va_D A (cW cB cI cJ cZ cS cO b cs9) ∧ b + kK cs9 ≤ t_.heap.size) A) ([.ref (b + x0), .int x1] : List Value).toArray s (kK cs9 - kK cs) (kM cs9 - kM cs) A) (F0 m 57 ls [.int y0]) := by
    intro cs1 u0 u1 u2 y0 h hmk hmm Gh H locs ls hP hD hG hgz hS hl
    obtain ⟨kb9, mb9⟩ := mo_c_X11_answer_b57 F cs1 u0 u1 u2 y0 cs9 h
    unfold c_X11_answer_b57 at h
    refine lv_istore_n (lv' := [(3, .int y0), (0, .ref (b + u0)), (1, .int u1), (2, .int u2)]) hx hb dX11_answer_57 rfl hl (by decide) rfl (fun ls hl => ?_)
    refine lv_aload_n hx hb dX11_answer_58 rfl (lv_at hl 1 rfl) ?_
    refine lv_aload_n hx hb dX11_answer_59 rfl (lv_at hl 1 rfl) ?_
    replace h := ob h; obtain ⟨v_39, hv_39, h⟩ := h
    refine fg_X11_119 hx hb hts hown hK hP hv_39 dX11_answer_60 ?_
    refine lv_aload_n hx hb dX11_answer_63 rfl (lv_at hl 1 rfl) ?_
    replace h := ob h; obtain ⟨v_40, hv_40, h⟩ := h
    refine fg_X11_107 hx hb hts hown hK hP hv_40 dX11_answer_64 ?_
    replace h := ob h; obtain ⟨i_41, hi_41, h⟩ := h
    subst hi_41
    replace h := ob h; obtain ⟨v_42, hv_42, h⟩ := h
    refine fg_X11_90 hx hb hts hown hK hP hv_42 dX11_answer_67 ?_
    refine lv_iconst (v := 0) hx hb dX11_answer_70 (by decide) ?_
    replace h := ob h; obtain ⟨i_43, hi_43, h⟩ := h
    subst hi_43
    replace h := ob h; obtain ⟨i_45, hi_45, h⟩ := h
    subst hi_45
    replace h := ob h; obtain ⟨w_46, hw_46, h⟩ := h
    replace h := ob h; obtain ⟨z_44, hv_44, h⟩ := h
    obtain ⟨qk_44, qm_44⟩ := mo_c_X4_runQuery F 300 cs1 i_45 i_43 0 z_44.1 z_44.2 hv_44
    obtain ⟨k9_44, m9_44⟩ := mo_c_X11_answer_b74 F z_44.1 u0 u1 u2 y0 z_44.2 u0 cs9 h
    refine canI (As := [.ref (b + i_43), .int 0]) hx hb hml hts hown hK hP hD hS hG hA (by omega) (by omega) hZ (X := 5) (by decide) rfl (ckE_some hw_46) (sa_X4_runQuery l dC dI cB cI cJ cZ cS cO b K V fz F 300 cs1 i_45 i_43 0 z_44.1 z_44.2 hv_44) (cw_X11_X4_runQuery hZ hts (fr := 307) (Nat.le_of_ble_eq_true rfl) (Nat.le_of_ble_eq_true rfl)) rfl hl.1 (Nat.le_of_ble_eq_true rfl) ⟨by show kK cs1 - kK cs + (kK z_44.1 - kK cs1) ≤ kK cs9 - kK cs; omega, by show kM cs1 - kM cs + (kM z_44.1 - kM cs1) ≤ kM cs9 - kM cs; omega⟩ dX11_answer_71 (fun H locs hP hD hG hgz hS => ?_)
    refine W_cnt (c2 := kK z_44.1 - kK cs) (n2 := kM z_44.1 - kM cs) (by omega) (by omega) ?_
    exact B_74 z_44.1 u0 u1 u2 y0 z_44.2 u0 h (by omega) (by omega) _ _ _ _ hP hD hG (by omega) hS (lv_sub hl [1, 2, 3, 0] rfl)
  have B_45 : ∀ (cs1 : CS) (u0 : Nat) (u1 : Int32) (u2 : Int32), c_X11_answer_b45 F cs1 u0 u1 u2 = some cs9 → kK cs ≤ kK cs1 → kM cs ≤ kM cs1 → ∀ (Gh H : Heap) (locs : List Loc) (ls : Array Slot), va_P (dC, dI) vwCl (cW cB cI cJ cZ cS cO b cs1) H → va_D A (cW cB cI cJ cZ cS cO b cs1) → va_S A s.heap Gh [] → Gh.size = b + kK cs1 → va_S A Gh H locs → lv_has ls 4 [(0, .ref (b + u0)), (1, .int u1), (2, .int u2)] → W p l e (headSpec (wsOf yX11_answer cX11_answer 4 none) ({ frames := 308, cells := kK cs9 - kK cs, slots := kM cs9 - kM cs, locals := 60 * (308) } : Room)).room s m ([.ref (b + x0), .int x1] : List Value).toArray below meth c H locs (kK cs1 - kK cs) (kM cs1 - kM cs) (MQ below (va_Qv (fun (_ : Unit) => True) (fun _ t_ => va_P (dC, dI) vwCl (cW cB cI cJ cZ cS cO b cs9) t_.heap ∧ va_D A (cW cB cI cJ cZ cS cO b cs9) ∧ b + kK cs9 ≤ t_.heap.size) A) ([.ref (b + x0), .int x1] : List Value).toArray s (kK cs9 - kK cs) (kM cs9 - kM cs) A) (F0 m 45 ls []) := by
    intro cs1 u0 u1 u2 h hmk hmm Gh H locs ls hP hD hG hgz hS hl
    obtain ⟨kb9, mb9⟩ := mo_c_X11_answer_b45 F cs1 u0 u1 u2 cs9 h
    unfold c_X11_answer_b45 at h
    refine lv_iload_n hx hb dX11_answer_45 rfl (lv_at hl 1 rfl) ?_
    refine lv_if_eq (tgt := 56) hx hb dX11_answer_46 (by decide) (fun c_47 => ?_) (fun c_47 => ?_)
    · skip
      replace h := (if_pos c_47).symm.trans h
      refine lv_iconst (v := 0) hx hb dX11_answer_56 (by decide) ?_
      refine W_cnt (c2 := kK cs1 - kK cs) (n2 := kM cs1 - kM cs) (by omega) (by omega) ?_
      exact B_57 cs1 u0 u1 u2 0 h (by omega) (by omega) _ _ _ _ hP hD hG (by omega) hS (lv_sub hl [0, 1, 2] rfl)
    · skip
      replace h := (if_neg c_47).symm.trans h
      refine lv_aload_n hx hb dX11_answer_49 rfl (lv_at hl 0 rfl) ?_
      replace h := ob h; obtain ⟨v_48, hv_48, h⟩ := h
      refine fg_X11_162 hx hb hts hown hK hP hv_48 dX11_answer_50 ?_
      refine lv_goto (tgt := 57) hx hb dX11_answer_53 (by decide) ?_
      refine W_cnt (c2 := kK cs1 - kK cs) (n2 := kM cs1 - kM cs) (by omega) (by omega) ?_
      exact B_57 cs1 u0 u1 u2 v_48 h (by omega) (by omega) _ _ _ _ hP hD hG (by omega) hS (lv_sub hl [0, 1, 2] rfl)
  have B_42 : ∀ (cs1 : CS) (u0 : Nat) (u1 : Int32) (u2 : Int32) (y0 : Int32) (y1 : Option Nat) (y2 : Option Nat), c_X11_answer_b42 F cs1 u0 u1 u2 y0 y1 y2 = some cs9 → kK cs ≤ kK cs1 → kM cs ≤ kM cs1 → ∀ (Gh H : Heap) (locs : List Loc) (ls : Array Slot), va_P (dC, dI) vwCl (cW cB cI cJ cZ cS cO b cs1) H → va_D A (cW cB cI cJ cZ cS cO b cs1) → va_S A s.heap Gh [] → Gh.size = b + kK cs1 → va_S A Gh H locs → lv_has ls 4 [(0, .ref (b + u0)), (1, .int u1), (2, .int u2)] → W p l e (headSpec (wsOf yX11_answer cX11_answer 4 none) ({ frames := 308, cells := kK cs9 - kK cs, slots := kM cs9 - kM cs, locals := 60 * (308) } : Room)).room s m ([.ref (b + x0), .int x1] : List Value).toArray below meth c H locs (kK cs1 - kK cs) (kM cs1 - kM cs) (MQ below (va_Qv (fun (_ : Unit) => True) (fun _ t_ => va_P (dC, dI) vwCl (cW cB cI cJ cZ cS cO b cs9) t_.heap ∧ va_D A (cW cB cI cJ cZ cS cO b cs9) ∧ b + kK cs9 ≤ t_.heap.size) A) ([.ref (b + x0), .int x1] : List Value).toArray s (kK cs9 - kK cs) (kM cs9 - kM cs) A) (F0 m 42 ls [.int y0, rv b y1, rv b y2]) := by
    intro cs1 u0 u1 u2 y0 y1 y2 h hmk hmm Gh H locs ls hP hD hG hgz hS hl
    obtain ⟨kb9, mb9⟩ := mo_c_X11_answer_b42 F cs1 u0 u1 u2 y0 y1 y2 cs9 h
    unfold c_X11_answer_b42 at h
    replace h := ob h; obtain ⟨i_49, hi_49, h⟩ := h
    subst hi_49
    replace h := ob h; obtain ⟨i_51, hi_51, h⟩ := h
    subst hi_51
    replace h := ob h; obtain ⟨w_52, hw_52, h⟩ := h
    replace h := ob h; obtain ⟨cs_50, hv_50, h⟩ := h
    obtain ⟨qk_50, qm_50⟩ := mo_c_X8_take F cs1 i_51 i_49 y0 cs_50 hv_50
    obtain ⟨k9_50, m9_50⟩ := mo_c_X11_answer_b45 F cs_50 u0 u1 u2 cs9 h
    refine cavV (As := [.ref (b + i_49), .int y0]) hx hb hml hts hown hK hP hD hS hG hA (by omega) (by omega) hZ (X := 9) (by decide) rfl (ckE_some hw_52) (sa_X8_take l dC dI cB cI cJ cZ cS cO b K V fz F cs1 i_51 i_49 y0 cs_50 hv_50) (cw_X11_X8_take hts (fr := 4) (Nat.le_of_ble_eq_true rfl) (Nat.le_of_ble_eq_true rfl)) rfl hl.1 (Nat.le_of_ble_eq_true rfl) ⟨by show kK cs1 - kK cs + (kK cs_50 - kK cs1) ≤ kK cs9 - kK cs; omega, by show kM cs1 - kM cs + (kM cs_50 - kM cs1) ≤ kM cs9 - kM cs; omega⟩ dX11_answer_42 (fun H locs hP hD hG hgz hS => ?_)
    refine W_cnt (c2 := kK cs_50 - kK cs) (n2 := kM cs_50 - kM cs) (by omega) (by omega) ?_
    exact B_45 cs_50 u0 u1 u2 h (by omega) (by omega) _ _ _ _ hP hD hG (by omega) hS (lv_sub hl [0, 1, 2] rfl)
  have h := hf
  unfold c_X11_answer at h
  refine W_cnt (c2 := kK cs - kK cs) (n2 := kM cs - kM cs) (by omega) (by omega) ?_
  refine lv_aload_n hx hb dX11_answer_0 rfl (lv_at hl 0 rfl) ?_
  replace h := ob h; obtain ⟨v_53, hv_53, h⟩ := h
  refine fg_X11_107 hx hb hts hown hK hP hv_53 dX11_answer_1 ?_
  cases v_53 with
  | none =>
    replace h := oc_n.symm.trans h
    refine lv_ifnullN (tgt := 14) hx hb dX11_answer_4 (by decide) ?_
    refine W_cnt (c2 := kK cs - kK cs) (n2 := kM cs - kM cs) (by omega) (by omega) ?_
    exact B_14 cs h (by omega) (by omega) _ _ _ _ hP hD hG (by omega) hS (lv_sub hl [] rfl)
  | some i_54 =>
    replace h := oc_s.symm.trans h
    refine lv_ifnull hx hb dX11_answer_4 ?_
    refine lv_aload_n hx hb dX11_answer_7 rfl (lv_at hl 0 rfl) ?_
    replace h := ob h; obtain ⟨v_55, hv_55, h⟩ := h
    refine fg_X11_119 hx hb hts hown hK hP hv_55 dX11_answer_8 ?_
    cases v_55 with
    | none =>
      replace h := oc_n.symm.trans h
      refine lv_ifnonnullN hx hb dX11_answer_11 ?_
      refine W_cnt (c2 := kK cs - kK cs) (n2 := kM cs - kM cs) (by omega) (by omega) ?_
      exact B_14 cs h (by omega) (by omega) _ _ _ _ hP hD hG (by omega) hS (lv_sub hl [] rfl)
    | some i_56 =>
      replace h := oc_s.symm.trans h
      refine lv_ifnonnull (tgt := 15) hx hb dX11_answer_11 (by decide) ?_
      refine lv_aload_n hx hb dX11_answer_15 rfl (lv_at hl 0 rfl) ?_
      replace h := ob h; obtain ⟨w_58, hw_58, h⟩ := h
      replace h := ob h; obtain ⟨v_57, hv_57, h⟩ := h
      refine cbvI (As := []) hx hb hml hts hown hK hP hD hS hG hA (by omega) (by omega) hZ (X := 12) (by decide) rfl (ckE_some hw_58) (sc_X11_width l dC dI cB cI cJ cZ cS cO b K V fz F cs x0 v_57 hv_57) (cw_X11_X11_width hts (fr := 0) (Nat.le_of_ble_eq_true rfl) (Nat.le_of_ble_eq_true rfl)) rfl hl.1 (Nat.le_of_ble_eq_true rfl) ⟨by show kK cs - kK cs ≤ kK cs9 - kK cs; omega, by show kM cs - kM cs ≤ kM cs9 - kM cs; omega⟩ dX11_answer_16 (fun H locs hP hD hG hgz hS => ?_)
      refine lv_istore_n (lv' := [(2, .int v_57), (0, .ref (b + x0)), (1, .int x1)]) hx hb dX11_answer_19 rfl hl (by decide) rfl (fun ls hl => ?_)
      refine lv_aload_n hx hb dX11_answer_20 rfl (lv_at hl 1 rfl) ?_
      replace h := ob h; obtain ⟨v_59, hv_59, h⟩ := h
      refine fg_X11_40 hx hb hts hown hK hP hv_59 dX11_answer_21 ?_
      refine lv_aload_n hx hb dX11_answer_24 rfl (lv_at hl 1 rfl) ?_
      replace h := ob h; obtain ⟨v_60, hv_60, h⟩ := h
      refine fg_X11_37 hx hb hts hown hK hP hv_60 dX11_answer_25 ?_
      refine lv_iload_n hx hb dX11_answer_28 rfl (lv_at hl 2 rfl) ?_
      refine lv_if_eq (tgt := 41) hx hb dX11_answer_29 (by decide) (fun c_61 => ?_) (fun c_61 => ?_)
      · skip
        replace h := (if_pos c_61).symm.trans h
        refine lv_iconst (v := 0) hx hb dX11_answer_41 (by decide) ?_
        refine W_cnt (c2 := kK cs - kK cs) (n2 := kM cs - kM cs) (by omega) (by omega) ?_
        exact B_42 cs x0 x1 v_57 0 v_60 v_59 h (by omega) (by omega) _ _ _ _ hP hD hG (by omega) hS (lv_sub hl [1, 2, 0] rfl)
      · skip
        replace h := (if_neg c_61).symm.trans h
        refine lv_aload_n hx hb dX11_answer_32 rfl (lv_at hl 1 rfl) ?_
        replace h := ob h; obtain ⟨v_62, hv_62, h⟩ := h
        refine fg_X11_162 hx hb hts hown hK hP hv_62 dX11_answer_33 ?_
        refine lv_iload_n hx hb dX11_answer_36 rfl (lv_at hl 0 rfl) ?_
        refine lv_imul hx hb dX11_answer_37 ?_
        refine lv_goto (tgt := 42) hx hb dX11_answer_38 (by decide) ?_
        refine W_cnt (c2 := kK cs - kK cs) (n2 := kM cs - kM cs) (by omega) (by omega) ?_
        exact B_42 cs x0 x1 v_57 (v_62 * v_57) v_60 v_59 h (by omega) (by omega) _ _ _ _ hP hD hG (by omega) hS (lv_sub hl [1, 2, 0] rfl)
theorem dX11_row_0 : decode cX11_row 0 = .ok (.aload_n 0, 1) := by decide +kernel
theorem dX11_row_1 : decode cX11_row 1 = .ok (.iconst 0, 1) := by decide +kernel
theorem dX11_row_2 : decode cX11_row 2 = .ok (.putfield 98, 3) := by decide +kernel
theorem dX11_row_5 : decode cX11_row 5 = .ok (.aload_n 0, 1) := by decide +kernel
theorem dX11_row_6 : decode cX11_row 6 = .ok (.getfield 16, 3) := by decide +kernel
theorem dX11_row_9 : decode cX11_row 9 = .ok (.iload_n 1, 1) := by decide +kernel
theorem dX11_row_10 : decode cX11_row 10 = .ok (.lload_n 2, 1) := by decide +kernel
theorem dX11_row_11 : decode cX11_row 11 = .ok (.invokevirtual 135, 3) := by decide +kernel
theorem dX11_row_14 : decode cX11_row 14 = .ok (.istore 4, 2) := by decide +kernel
theorem dX11_row_16 : decode cX11_row 16 = .ok (.iload 4, 2) := by decide +kernel
theorem dX11_row_18 : decode cX11_row 18 = .ok (.iconst (-1), 1) := by decide +kernel
theorem dX11_row_19 : decode cX11_row 19 = .ok (.if_icmp .eq 8, 3) := by decide +kernel
theorem dX11_row_22 : decode cX11_row 22 = .ok (.aload_n 0, 1) := by decide +kernel
theorem dX11_row_23 : decode cX11_row 23 = .ok (.iconst 1, 1) := by decide +kernel
theorem dX11_row_24 : decode cX11_row 24 = .ok (.invokevirtual 123, 3) := by decide +kernel
theorem dX11_row_27 : decode cX11_row 27 = .ok (.iload 4, 2) := by decide +kernel
theorem dX11_row_29 : decode cX11_row 29 = .ok (.ireturn, 1) := by decide +kernel
def c_X11_row_b27 (F : Nat) (cs1 : CS) (u4 : Int32) : Option (CS × Int32) := some (cs1, u4)
def c_X11_row (F : Nat) (cs : CS) (x0 : Nat) (x1 : Int32) (x2 : Int64) : Option (CS × Int32) := Option.bind (pI cs 12 398 x0 0) fun cs_1 => Option.bind (gR cs_1 12 386 x0) fun v_2 => Option.bind (v_2) fun i_4 => Option.bind (ckE cs_1 8 i_4) fun _ => Option.bind (c_X7_settle F cs_1 i_4 x1 x2) fun z_3 => if z_3.2 = (-1) then (c_X11_row_b27 F z_3.1 z_3.2) else (Option.bind (ckE z_3.1 12 x0) fun _ => Option.bind (c_X11_answer F z_3.1 x0 1) fun cs_7 => c_X11_row_b27 F cs_7 z_3.2)
theorem mo_c_X11_row_b27 (F : Nat) (cs1 : CS) (u4 : Int32) (cs9 : CS) (r9 : Int32) (h : c_X11_row_b27 F cs1 u4 = some (cs9, r9)) : kK cs1 ≤ kK cs9 ∧ kM cs1 ≤ kM cs9 := by
  unfold c_X11_row_b27 at h
  have h9 := (Prod.mk.inj (Option.some.inj h)).1
  have k9 := congrArg kK h9; have m9 := congrArg kM h9; exact ⟨by omega, by omega⟩
theorem mo_c_X11_row (F : Nat) (cs : CS) (x0 : Nat) (x1 : Int32) (x2 : Int64) (cs9 : CS) (r9 : Int32) (h : c_X11_row F cs x0 x1 x2 = some (cs9, r9)) : kK cs ≤ kK cs9 ∧ kM cs ≤ kM cs9 := by
  unfold c_X11_row at h
  replace h := ob h; obtain ⟨cs_1, hv_1, h⟩ := h
  obtain ⟨qk_1, qm_1⟩ := pI_k hv_1
  replace h := ob h; obtain ⟨v_2, hv_2, h⟩ := h
  replace h := ob h; obtain ⟨i_4, hi_4, h⟩ := h
  subst hi_4
  replace h := ob h; obtain ⟨w_5, hw_5, h⟩ := h
  replace h := ob h; obtain ⟨z_3, hv_3, h⟩ := h
  obtain ⟨qk_3, qm_3⟩ := k_of (mo_c_X7_settle F cs_1 i_4 x1 x2 z_3.1 z_3.2 hv_3)
  by_cases c_6 : z_3.2 = (-1)
  · skip
    replace h := (if_pos c_6).symm.trans h
    obtain ⟨k9, m9⟩ := mo_c_X11_row_b27 F z_3.1 z_3.2 cs9 r9 h
    exact ⟨by omega, by omega⟩
  · skip
    replace h := (if_neg c_6).symm.trans h
    replace h := ob h; obtain ⟨w_8, hw_8, h⟩ := h
    replace h := ob h; obtain ⟨cs_7, hv_7, h⟩ := h
    obtain ⟨qk_7, qm_7⟩ := mo_c_X11_answer F z_3.1 x0 1 cs_7 hv_7
    obtain ⟨k9, m9⟩ := mo_c_X11_row_b27 F cs_7 z_3.2 cs9 r9 h
    exact ⟨by omega, by omega⟩
set_option maxHeartbeats 4000000 in
set_option maxRecDepth 100000 in
theorem sa_X11_row (l : Launch) (dC : Nat → ClassId) (dI : Nat → Nat → Nat) (cB cI cJ cZ cS cO : ClassId) (b : Nat) (K V : Nat → Nat) (fz : Value) (F : Nat) (cs : CS) (x0 : Nat) (x1 : Int32) (x2 : Int64) (cs9 : CS) (r9 : Int32) (hf : c_X11_row F cs x0 x1 x2 = some (cs9, r9)) : oaI l dC dI cB cI cJ cZ cS cO b K V fz yX11_row (wsOf yX11_row cX11_row 5 (some .int)) (309) [.ref (b + x0), .int x1, .long x2] cs cs9 r9 := by
  obtain ⟨kb9, mb9⟩ := mo_c_X11_row F cs x0 x1 x2 cs9 r9 hf
  refine ⟨⟨kb9, mb9⟩, ?_⟩
  refine Met.ofW (cc := cX11_row) (maxL := 5) (ret := (some .int)) (by decide) rfl ?_
  intro p e s m args below meth c s₁ B hml hv
  obtain ⟨rfl, hsz, hP, hK, hD0, hZ⟩ := hv
  have hx := B.exec
  have hb := B.bytes
  have hr := B.returns
  have hts := atoms_spec (ws := (wsOf yX11_row cX11_row 5 (some .int))) B.pre
  have hown : s.vm.findClass RX11 = some m.cls := findClass_of_methodNamed B.named
  have hlocks := B.notSynchronized
  have hD := hD0.self (sz := b + kK cs)
  generalize hAe : va_A (cW cB cI cJ cZ cS cO b cs) (b + kK cs) = A at hD hZ ⊢
  have hA : ∀ q : Nat, s.heap.size ≤ q → A q := fun q h => by rw [← hAe]; exact Or.inr (by omega)
  have hS : va_S A s.heap s.heap [] := va_S.rf
  have hG : va_S A s.heap s.heap [] := va_S.rf
  have hgz : s.heap.size = b + kK cs := hsz
  have hl := lv_entry ([.ref (b + x0), .int x1, .long x2]) (n := 5) (Nat.le_of_ble_eq_true rfl)
  rw [lg_entry_eq]
  generalize (lg_sl ([.ref (b + x0), .int x1, .long x2]) ++ List.replicate (5 - (lg_sl ([.ref (b + x0), .int x1, .long x2])).length) Slot.unset).toArray = ls at hl ⊢
  have hl : lv_has ls 5 [(0, .ref (b + x0)), (1, .int x1), (2, .long x2)] := hl
  have B_27 : ∀ (cs1 : CS) (u4 : Int32), c_X11_row_b27 F cs1 u4 = some (cs9, r9) → kK cs ≤ kK cs1 → kM cs ≤ kM cs1 → ∀ (Gh H : Heap) (locs : List Loc) (ls : Array Slot), va_P (dC, dI) vwCl (cW cB cI cJ cZ cS cO b cs1) H → va_D A (cW cB cI cJ cZ cS cO b cs1) → va_S A s.heap Gh [] → Gh.size = b + kK cs1 → va_S A Gh H locs → lv_has ls 5 [(4, .int u4)] → W p l e (headSpec (wsOf yX11_row cX11_row 5 (some .int)) ({ frames := 309, cells := kK cs9 - kK cs, slots := kM cs9 - kM cs, locals := 60 * (309) } : Room)).room s m ([.ref (b + x0), .int x1, .long x2] : List Value).toArray below meth c H locs (kK cs1 - kK cs) (kM cs1 - kM cs) (MQ below (va_Qi (fun (x : Int32) (_ : Unit) => x = r9) (fun _ t_ => va_P (dC, dI) vwCl (cW cB cI cJ cZ cS cO b cs9) t_.heap ∧ va_D A (cW cB cI cJ cZ cS cO b cs9) ∧ b + kK cs9 ≤ t_.heap.size) A) ([.ref (b + x0), .int x1, .long x2] : List Value).toArray s (kK cs9 - kK cs) (kM cs9 - kM cs) A) (F0 m 27 ls []) := by
    intro cs1 u4 h hmk hmm Gh H locs ls hP hD hG hgz hS hl
    obtain ⟨kb9, mb9⟩ := mo_c_X11_row_b27 F cs1 u4 cs9 r9 h
    unfold c_X11_row_b27 at h
    refine lv_iload hx hb dX11_row_27 (lv_at hl 0 rfl) ?_
    obtain ⟨e1, e2⟩ := Prod.mk.inj (Option.some.inj h)
    rw [e1] at hP hD
    have e3 := congrArg kK e1
    have e4 := congrArg kM e1
    refine W_cnt (c2 := kK cs9 - kK cs) (n2 := kM cs9 - kM cs) (by omega) (by omega) ?_
    exact W.iret (v := u4) hx hb hr (fun t_ ht hW => ⟨⟨u4, (), rfl, e2, by rw [ht]; exact hP, hD, by rw [ht]; have := hS.1; omega⟩, (hG.comp hS).F ht⟩) (hG.comp hS).2.2 dX11_row_29
  have h := hf
  unfold c_X11_row at h
  refine W_cnt (c2 := kK cs - kK cs) (n2 := kM cs - kM cs) (by omega) (by omega) ?_
  refine lv_aload_n hx hb dX11_row_0 rfl (lv_at hl 0 rfl) ?_
  refine lv_iconst (v := 0) hx hb dX11_row_1 (by decide) ?_
  replace h := ob h; obtain ⟨cs_1, hv_1, h⟩ := h
  obtain ⟨qk_1, qm_1⟩ := pI_k hv_1
  refine fp_X11_98 hx hb hts hown hK hP hD hS hv_1 dX11_row_2 (fun H locs hP hD hS => ?_)
  refine lv_aload_n hx hb dX11_row_5 rfl (lv_at hl 0 rfl) ?_
  replace h := ob h; obtain ⟨v_2, hv_2, h⟩ := h
  refine fg_X11_16 hx hb hts hown hK hP hv_2 dX11_row_6 ?_
  refine lv_iload_n hx hb dX11_row_9 rfl (lv_at hl 1 rfl) ?_
  refine lv_lload_n hx hb dX11_row_10 rfl (lv_at hl 2 rfl) ?_
  replace h := ob h; obtain ⟨i_4, hi_4, h⟩ := h
  subst hi_4
  replace h := ob h; obtain ⟨w_5, hw_5, h⟩ := h
  replace h := ob h; obtain ⟨z_3, hv_3, h⟩ := h
  obtain ⟨qk_3, qm_3⟩ := k_of (mo_c_X7_settle F cs_1 i_4 x1 x2 z_3.1 z_3.2 hv_3)
  refine cbvI (As := [.int x1, .long x2]) hx hb hml hts hown hK hP hD hS hG hA (by omega) (by omega) hZ (X := 8) (by decide) rfl (ckE_some hw_5) (sc_X7_settle l dC dI cB cI cJ cZ cS cO b K V fz F cs_1 i_4 x1 x2 z_3.1 z_3.2 hv_3) (cw_X11_X7_settle hts (fr := 3) (Nat.le_of_ble_eq_true rfl) (Nat.le_of_ble_eq_true rfl)) rfl hl.1 (Nat.le_of_ble_eq_true rfl) ⟨by show kK cs - kK cs ≤ kK cs9 - kK cs; omega, by show kM cs - kM cs ≤ kM cs9 - kM cs; omega⟩ dX11_row_11 (fun H locs hP hD hG hgz hS => ?_)
  refine lv_istore (lv' := [(4, .int z_3.2), (0, .ref (b + x0)), (1, .int x1), (2, .long x2)]) hx hb dX11_row_14 hl (by decide) rfl (fun ls hl => ?_)
  refine lv_iload hx hb dX11_row_16 (lv_at hl 0 rfl) ?_
  refine lv_iconst (v := (-1)) hx hb dX11_row_18 (by decide) ?_
  refine lv_icmp_eq (tgt := 27) hx hb dX11_row_19 (by decide) (fun c_6 => ?_) (fun c_6 => ?_)
  · skip
    replace h := (if_pos c_6).symm.trans h
    refine W_cnt (c2 := kK z_3.1 - kK cs) (n2 := kM z_3.1 - kM cs) (by omega) (by omega) ?_
    exact B_27 z_3.1 z_3.2 h (by omega) (by omega) _ _ _ _ hP hD hG (by omega) hS (lv_sub hl [0] rfl)
  · skip
    replace h := (if_neg c_6).symm.trans h
    refine lv_aload_n hx hb dX11_row_22 rfl (lv_at hl 1 rfl) ?_
    refine lv_iconst (v := 1) hx hb dX11_row_23 (by decide) ?_
    replace h := ob h; obtain ⟨w_8, hw_8, h⟩ := h
    replace h := ob h; obtain ⟨cs_7, hv_7, h⟩ := h
    obtain ⟨qk_7, qm_7⟩ := mo_c_X11_answer F z_3.1 x0 1 cs_7 hv_7
    obtain ⟨k9_7, m9_7⟩ := mo_c_X11_row_b27 F cs_7 z_3.2 cs9 r9 h
    refine cavV (As := [.int 1]) hx hb hml hts hown hK hP hD hS hG hA (by omega) (by omega) hZ (X := 12) (by decide) rfl (ckE_some hw_8) (sa_X11_answer l dC dI cB cI cJ cZ cS cO b K V fz F z_3.1 x0 1 cs_7 hv_7) (cw_X11_X11_answer hts (fr := 308) (Nat.le_of_ble_eq_true rfl) (Nat.le_of_ble_eq_true rfl)) rfl hl.1 (Nat.le_of_ble_eq_true rfl) ⟨by show kK cs - kK cs + (kK cs_7 - kK z_3.1) ≤ kK cs9 - kK cs; omega, by show kM cs - kM cs + (kM cs_7 - kM z_3.1) ≤ kM cs9 - kM cs; omega⟩ dX11_row_24 (fun H locs hP hD hG hgz hS => ?_)
    refine W_cnt (c2 := kK cs_7 - kK cs) (n2 := kM cs_7 - kM cs) (by omega) (by omega) ?_
    exact B_27 cs_7 z_3.2 h (by omega) (by omega) _ _ _ _ hP hD hG (by omega) hS (lv_sub hl [0] rfl)
theorem dX11_back_0 : decode cX11_back 0 = .ok (.aload_n 0, 1) := by decide +kernel
theorem dX11_back_1 : decode cX11_back 1 = .ok (.iconst 0, 1) := by decide +kernel
theorem dX11_back_2 : decode cX11_back 2 = .ok (.putfield 98, 3) := by decide +kernel
theorem dX11_back_5 : decode cX11_back 5 = .ok (.aload_n 0, 1) := by decide +kernel
theorem dX11_back_6 : decode cX11_back 6 = .ok (.getfield 16, 3) := by decide +kernel
theorem dX11_back_9 : decode cX11_back 9 = .ok (.iload_n 1, 1) := by decide +kernel
theorem dX11_back_10 : decode cX11_back 10 = .ok (.iload_n 2, 1) := by decide +kernel
theorem dX11_back_11 : decode cX11_back 11 = .ok (.invokevirtual 139, 3) := by decide +kernel
theorem dX11_back_14 : decode cX11_back 14 = .ok (.ifCond .ne 5, 3) := by decide +kernel
theorem dX11_back_17 : decode cX11_back 17 = .ok (.iconst 0, 1) := by decide +kernel
theorem dX11_back_18 : decode cX11_back 18 = .ok (.ireturn, 1) := by decide +kernel
theorem dX11_back_19 : decode cX11_back 19 = .ok (.aload_n 0, 1) := by decide +kernel
theorem dX11_back_20 : decode cX11_back 20 = .ok (.iconst 1, 1) := by decide +kernel
theorem dX11_back_21 : decode cX11_back 21 = .ok (.invokevirtual 123, 3) := by decide +kernel
theorem dX11_back_24 : decode cX11_back 24 = .ok (.iconst 1, 1) := by decide +kernel
theorem dX11_back_25 : decode cX11_back 25 = .ok (.ireturn, 1) := by decide +kernel
def c_X11_back_b24 (F : Nat) (cs1 : CS) : Option (CS × Int32) := some (cs1, 1)
def c_X11_back (F : Nat) (cs : CS) (x0 : Nat) (x1 : Int32) (x2 : Int32) : Option (CS × Int32) := Option.bind (pI cs 12 398 x0 0) fun cs_1 => Option.bind (gR cs_1 12 386 x0) fun v_2 => Option.bind (v_2) fun i_4 => Option.bind (ckE cs_1 8 i_4) fun _ => Option.bind (c_X7_remove F cs_1 i_4 x1 x2) fun z_3 => if z_3.2 = 0 then (some (z_3.1, 0)) else (Option.bind (ckE z_3.1 12 x0) fun _ => Option.bind (c_X11_answer F z_3.1 x0 1) fun cs_7 => c_X11_back_b24 F cs_7)
theorem mo_c_X11_back_b24 (F : Nat) (cs1 : CS) (cs9 : CS) (r9 : Int32) (h : c_X11_back_b24 F cs1 = some (cs9, r9)) : kK cs1 ≤ kK cs9 ∧ kM cs1 ≤ kM cs9 := by
  unfold c_X11_back_b24 at h
  have h9 := (Prod.mk.inj (Option.some.inj h)).1
  have k9 := congrArg kK h9; have m9 := congrArg kM h9; exact ⟨by omega, by omega⟩
theorem mo_c_X11_back (F : Nat) (cs : CS) (x0 : Nat) (x1 : Int32) (x2 : Int32) (cs9 : CS) (r9 : Int32) (h : c_X11_back F cs x0 x1 x2 = some (cs9, r9)) : kK cs ≤ kK cs9 ∧ kM cs ≤ kM cs9 := by
  unfold c_X11_back at h
  replace h := ob h; obtain ⟨cs_1, hv_1, h⟩ := h
  obtain ⟨qk_1, qm_1⟩ := pI_k hv_1
  replace h := ob h; obtain ⟨v_2, hv_2, h⟩ := h
  replace h := ob h; obtain ⟨i_4, hi_4, h⟩ := h
  subst hi_4
  replace h := ob h; obtain ⟨w_5, hw_5, h⟩ := h
  replace h := ob h; obtain ⟨z_3, hv_3, h⟩ := h
  obtain ⟨qk_3, qm_3⟩ := k_of (mo_c_X7_remove F cs_1 i_4 x1 x2 z_3.1 z_3.2 hv_3)
  by_cases c_6 : z_3.2 = 0
  · skip
    replace h := (if_pos c_6).symm.trans h
    have h9 := (Prod.mk.inj (Option.some.inj h)).1
    have k9 := congrArg kK h9; have m9 := congrArg kM h9; exact ⟨by omega, by omega⟩
  · skip
    replace h := (if_neg c_6).symm.trans h
    replace h := ob h; obtain ⟨w_8, hw_8, h⟩ := h
    replace h := ob h; obtain ⟨cs_7, hv_7, h⟩ := h
    obtain ⟨qk_7, qm_7⟩ := mo_c_X11_answer F z_3.1 x0 1 cs_7 hv_7
    obtain ⟨k9, m9⟩ := mo_c_X11_back_b24 F cs_7 cs9 r9 h
    exact ⟨by omega, by omega⟩
set_option maxHeartbeats 4000000 in
set_option maxRecDepth 100000 in
theorem sa_X11_back (l : Launch) (dC : Nat → ClassId) (dI : Nat → Nat → Nat) (cB cI cJ cZ cS cO : ClassId) (b : Nat) (K V : Nat → Nat) (fz : Value) (F : Nat) (cs : CS) (x0 : Nat) (x1 : Int32) (x2 : Int32) (cs9 : CS) (r9 : Int32) (hf : c_X11_back F cs x0 x1 x2 = some (cs9, r9)) : oaI l dC dI cB cI cJ cZ cS cO b K V fz yX11_back (wsOf yX11_back cX11_back 3 (some .boolean)) (309) [.ref (b + x0), .int x1, .int x2] cs cs9 r9 := by
  obtain ⟨kb9, mb9⟩ := mo_c_X11_back F cs x0 x1 x2 cs9 r9 hf
  refine ⟨⟨kb9, mb9⟩, ?_⟩
  refine Met.ofW (cc := cX11_back) (maxL := 3) (ret := (some .boolean)) (by decide) rfl ?_
  intro p e s m args below meth c s₁ B hml hv
  obtain ⟨rfl, hsz, hP, hK, hD0, hZ⟩ := hv
  have hx := B.exec
  have hb := B.bytes
  have hr := B.returns
  have hts := atoms_spec (ws := (wsOf yX11_back cX11_back 3 (some .boolean))) B.pre
  have hown : s.vm.findClass RX11 = some m.cls := findClass_of_methodNamed B.named
  have hlocks := B.notSynchronized
  have hD := hD0.self (sz := b + kK cs)
  generalize hAe : va_A (cW cB cI cJ cZ cS cO b cs) (b + kK cs) = A at hD hZ ⊢
  have hA : ∀ q : Nat, s.heap.size ≤ q → A q := fun q h => by rw [← hAe]; exact Or.inr (by omega)
  have hS : va_S A s.heap s.heap [] := va_S.rf
  have hG : va_S A s.heap s.heap [] := va_S.rf
  have hgz : s.heap.size = b + kK cs := hsz
  have hl := lv_entry ([.ref (b + x0), .int x1, .int x2]) (n := 3) (Nat.le_of_ble_eq_true rfl)
  rw [lg_entry_eq]
  generalize (lg_sl ([.ref (b + x0), .int x1, .int x2]) ++ List.replicate (3 - (lg_sl ([.ref (b + x0), .int x1, .int x2])).length) Slot.unset).toArray = ls at hl ⊢
  have hl : lv_has ls 3 [(0, .ref (b + x0)), (1, .int x1), (2, .int x2)] := hl
  have B_24 : ∀ (cs1 : CS) , c_X11_back_b24 F cs1 = some (cs9, r9) → kK cs ≤ kK cs1 → kM cs ≤ kM cs1 → ∀ (Gh H : Heap) (locs : List Loc) (ls : Array Slot), va_P (dC, dI) vwCl (cW cB cI cJ cZ cS cO b cs1) H → va_D A (cW cB cI cJ cZ cS cO b cs1) → va_S A s.heap Gh [] → Gh.size = b + kK cs1 → va_S A Gh H locs → lv_has ls 3 [] → W p l e (headSpec (wsOf yX11_back cX11_back 3 (some .boolean)) ({ frames := 309, cells := kK cs9 - kK cs, slots := kM cs9 - kM cs, locals := 60 * (309) } : Room)).room s m ([.ref (b + x0), .int x1, .int x2] : List Value).toArray below meth c H locs (kK cs1 - kK cs) (kM cs1 - kM cs) (MQ below (va_Qi (fun (x : Int32) (_ : Unit) => x = r9) (fun _ t_ => va_P (dC, dI) vwCl (cW cB cI cJ cZ cS cO b cs9) t_.heap ∧ va_D A (cW cB cI cJ cZ cS cO b cs9) ∧ b + kK cs9 ≤ t_.heap.size) A) ([.ref (b + x0), .int x1, .int x2] : List Value).toArray s (kK cs9 - kK cs) (kM cs9 - kM cs) A) (F0 m 24 ls []) := by
    intro cs1  h hmk hmm Gh H locs ls hP hD hG hgz hS hl
    obtain ⟨kb9, mb9⟩ := mo_c_X11_back_b24 F cs1  cs9 r9 h
    unfold c_X11_back_b24 at h
    refine lv_iconst (v := 1) hx hb dX11_back_24 (by decide) ?_
    obtain ⟨e1, e2⟩ := Prod.mk.inj (Option.some.inj h)
    rw [e1] at hP hD
    have e3 := congrArg kK e1
    have e4 := congrArg kM e1
    refine W_cnt (c2 := kK cs9 - kK cs) (n2 := kM cs9 - kM cs) (by omega) (by omega) ?_
    exact W.zret (v := 1) hx hb hr (nzN (Or.inr rfl)) (fun t_ ht hW => ⟨⟨1, (), rfl, e2, by rw [ht]; exact hP, hD, by rw [ht]; have := hS.1; omega⟩, (hG.comp hS).F ht⟩) (hG.comp hS).2.2 dX11_back_25
  have h := hf
  unfold c_X11_back at h
  refine W_cnt (c2 := kK cs - kK cs) (n2 := kM cs - kM cs) (by omega) (by omega) ?_
  refine lv_aload_n hx hb dX11_back_0 rfl (lv_at hl 0 rfl) ?_
  refine lv_iconst (v := 0) hx hb dX11_back_1 (by decide) ?_
  replace h := ob h; obtain ⟨cs_1, hv_1, h⟩ := h
  obtain ⟨qk_1, qm_1⟩ := pI_k hv_1
  refine fp_X11_98 hx hb hts hown hK hP hD hS hv_1 dX11_back_2 (fun H locs hP hD hS => ?_)
  refine lv_aload_n hx hb dX11_back_5 rfl (lv_at hl 0 rfl) ?_
  replace h := ob h; obtain ⟨v_2, hv_2, h⟩ := h
  refine fg_X11_16 hx hb hts hown hK hP hv_2 dX11_back_6 ?_
  refine lv_iload_n hx hb dX11_back_9 rfl (lv_at hl 1 rfl) ?_
  refine lv_iload_n hx hb dX11_back_10 rfl (lv_at hl 2 rfl) ?_
  replace h := ob h; obtain ⟨i_4, hi_4, h⟩ := h
  subst hi_4
  replace h := ob h; obtain ⟨w_5, hw_5, h⟩ := h
  replace h := ob h; obtain ⟨z_3, hv_3, h⟩ := h
  obtain ⟨qk_3, qm_3⟩ := k_of (mo_c_X7_remove F cs_1 i_4 x1 x2 z_3.1 z_3.2 hv_3)
  refine cbvI (As := [.int x1, .int x2]) hx hb hml hts hown hK hP hD hS hG hA (by omega) (by omega) hZ (X := 8) (by decide) rfl (ckE_some hw_5) (sc_X7_remove l dC dI cB cI cJ cZ cS cO b K V fz F cs_1 i_4 x1 x2 z_3.1 z_3.2 hv_3) (cw_X11_X7_remove hts (fr := 2) (Nat.le_of_ble_eq_true rfl) (Nat.le_of_ble_eq_true rfl)) rfl hl.1 (Nat.le_of_ble_eq_true rfl) ⟨by show kK cs - kK cs ≤ kK cs9 - kK cs; omega, by show kM cs - kM cs ≤ kM cs9 - kM cs; omega⟩ dX11_back_11 (fun H locs hP hD hG hgz hS => ?_)
  refine lv_if_ne (tgt := 19) hx hb dX11_back_14 (by decide) (fun c_6 => ?_) (fun c_6 => ?_)
  · skip
    replace h := (if_neg c_6).symm.trans h
    refine lv_aload_n hx hb dX11_back_19 rfl (lv_at hl 0 rfl) ?_
    refine lv_iconst (v := 1) hx hb dX11_back_20 (by decide) ?_
    replace h := ob h; obtain ⟨w_8, hw_8, h⟩ := h
    replace h := ob h; obtain ⟨cs_7, hv_7, h⟩ := h
    obtain ⟨qk_7, qm_7⟩ := mo_c_X11_answer F z_3.1 x0 1 cs_7 hv_7
    obtain ⟨k9_7, m9_7⟩ := mo_c_X11_back_b24 F cs_7 cs9 r9 h
    refine cavV (As := [.int 1]) hx hb hml hts hown hK hP hD hS hG hA (by omega) (by omega) hZ (X := 12) (by decide) rfl (ckE_some hw_8) (sa_X11_answer l dC dI cB cI cJ cZ cS cO b K V fz F z_3.1 x0 1 cs_7 hv_7) (cw_X11_X11_answer hts (fr := 308) (Nat.le_of_ble_eq_true rfl) (Nat.le_of_ble_eq_true rfl)) rfl hl.1 (Nat.le_of_ble_eq_true rfl) ⟨by show kK cs - kK cs + (kK cs_7 - kK z_3.1) ≤ kK cs9 - kK cs; omega, by show kM cs - kM cs + (kM cs_7 - kM z_3.1) ≤ kM cs9 - kM cs; omega⟩ dX11_back_21 (fun H locs hP hD hG hgz hS => ?_)
    refine W_cnt (c2 := kK cs_7 - kK cs) (n2 := kM cs_7 - kM cs) (by omega) (by omega) ?_
    exact B_24 cs_7 h (by omega) (by omega) _ _ _ _ hP hD hG (by omega) hS (lv_sub hl [] rfl)
  · skip
    replace h := (if_pos c_6).symm.trans h
    refine lv_iconst (v := 0) hx hb dX11_back_17 (by decide) ?_
    obtain ⟨e1, e2⟩ := Prod.mk.inj (Option.some.inj h)
    rw [e1] at hP hD
    have e3 := congrArg kK e1
    have e4 := congrArg kM e1
    refine W_cnt (c2 := kK cs9 - kK cs) (n2 := kM cs9 - kM cs) (by omega) (by omega) ?_
    exact W.zret (v := 0) hx hb hr (nzN (Or.inl rfl)) (fun t_ ht hW => ⟨⟨0, (), rfl, e2, by rw [ht]; exact hP, hD, by rw [ht]; have := hS.1; omega⟩, (hG.comp hS).F ht⟩) (hG.comp hS).2.2 dX11_back_18
theorem dX11_watermark_0 : decode cX11_watermark 0 = .ok (.aload_n 0, 1) := by decide +kernel
theorem dX11_watermark_1 : decode cX11_watermark 1 = .ok (.iconst 0, 1) := by decide +kernel
theorem dX11_watermark_2 : decode cX11_watermark 2 = .ok (.putfield 98, 3) := by decide +kernel
theorem dX11_watermark_5 : decode cX11_watermark 5 = .ok (.lload_n 1, 1) := by decide +kernel
theorem dX11_watermark_6 : decode cX11_watermark 6 = .ok (.aload_n 0, 1) := by decide +kernel
theorem dX11_watermark_7 : decode cX11_watermark 7 = .ok (.getfield 16, 3) := by decide +kernel
theorem dX11_watermark_10 : decode cX11_watermark 10 = .ok (.getfield 143, 3) := by decide +kernel
theorem dX11_watermark_13 : decode cX11_watermark 13 = .ok (.lcmp, 1) := by decide +kernel
theorem dX11_watermark_14 : decode cX11_watermark 14 = .ok (.ifCond .le 16, 3) := by decide +kernel
theorem dX11_watermark_17 : decode cX11_watermark 17 = .ok (.aload_n 0, 1) := by decide +kernel
theorem dX11_watermark_18 : decode cX11_watermark 18 = .ok (.getfield 16, 3) := by decide +kernel
theorem dX11_watermark_21 : decode cX11_watermark 21 = .ok (.lload_n 1, 1) := by decide +kernel
theorem dX11_watermark_22 : decode cX11_watermark 22 = .ok (.putfield 143, 3) := by decide +kernel
theorem dX11_watermark_25 : decode cX11_watermark 25 = .ok (.aload_n 0, 1) := by decide +kernel
theorem dX11_watermark_26 : decode cX11_watermark 26 = .ok (.iconst 1, 1) := by decide +kernel
theorem dX11_watermark_27 : decode cX11_watermark 27 = .ok (.invokevirtual 123, 3) := by decide +kernel
theorem dX11_watermark_30 : decode cX11_watermark 30 = .ok (.aload_n 0, 1) := by decide +kernel
theorem dX11_watermark_31 : decode cX11_watermark 31 = .ok (.getfield 98, 3) := by decide +kernel
theorem dX11_watermark_34 : decode cX11_watermark 34 = .ok (.ireturn, 1) := by decide +kernel
def c_X11_watermark_b30 (F : Nat) (cs1 : CS) (u0 : Nat) : Option (CS × Int32) := Option.bind (gI cs1 12 398 u0) fun v_1 => some (cs1, v_1)
def c_X11_watermark (F : Nat) (cs : CS) (x0 : Nat) (x1 : Int64) : Option (CS × Int32) := Option.bind (pI cs 12 398 x0 0) fun cs_2 => Option.bind (gR cs_2 12 386 x0) fun v_3 => Option.bind (v_3) fun i_4 => Option.bind (gJ cs_2 8 257 i_4) fun v_5 => if x1 ≤ v_5 then (c_X11_watermark_b30 F cs_2 x0) else (Option.bind (gR cs_2 12 386 x0) fun v_7 => Option.bind (v_7) fun i_8 => Option.bind (pJ cs_2 8 257 i_8 x1) fun cs_9 => Option.bind (ckE cs_9 12 x0) fun _ => Option.bind (c_X11_answer F cs_9 x0 1) fun cs_10 => c_X11_watermark_b30 F cs_10 x0)
theorem mo_c_X11_watermark_b30 (F : Nat) (cs1 : CS) (u0 : Nat) (cs9 : CS) (r9 : Int32) (h : c_X11_watermark_b30 F cs1 u0 = some (cs9, r9)) : kK cs1 ≤ kK cs9 ∧ kM cs1 ≤ kM cs9 := by
  unfold c_X11_watermark_b30 at h
  replace h := ob h; obtain ⟨v_2, hv_2, h⟩ := h
  have h9 := (Prod.mk.inj (Option.some.inj h)).1
  have k9 := congrArg kK h9; have m9 := congrArg kM h9; exact ⟨by omega, by omega⟩
theorem mo_c_X11_watermark (F : Nat) (cs : CS) (x0 : Nat) (x1 : Int64) (cs9 : CS) (r9 : Int32) (h : c_X11_watermark F cs x0 x1 = some (cs9, r9)) : kK cs ≤ kK cs9 ∧ kM cs ≤ kM cs9 := by
  unfold c_X11_watermark at h
  replace h := ob h; obtain ⟨cs_2, hv_2, h⟩ := h
  obtain ⟨qk_2, qm_2⟩ := pI_k hv_2
  replace h := ob h; obtain ⟨v_3, hv_3, h⟩ := h
  replace h := ob h; obtain ⟨i_4, hi_4, h⟩ := h
  subst hi_4
  replace h := ob h; obtain ⟨v_5, hv_5, h⟩ := h
  by_cases c_6 : x1 ≤ v_5
  · skip
    replace h := (if_pos c_6).symm.trans h
    obtain ⟨k9, m9⟩ := mo_c_X11_watermark_b30 F cs_2 x0 cs9 r9 h
    exact ⟨by omega, by omega⟩
  · skip
    replace h := (if_neg c_6).symm.trans h
    replace h := ob h; obtain ⟨v_7, hv_7, h⟩ := h
    replace h := ob h; obtain ⟨i_8, hi_8, h⟩ := h
    subst hi_8
    replace h := ob h; obtain ⟨cs_9, hv_9, h⟩ := h
    obtain ⟨qk_9, qm_9⟩ := pJ_k hv_9
    replace h := ob h; obtain ⟨w_11, hw_11, h⟩ := h
    replace h := ob h; obtain ⟨cs_10, hv_10, h⟩ := h
    obtain ⟨qk_10, qm_10⟩ := mo_c_X11_answer F cs_9 x0 1 cs_10 hv_10
    obtain ⟨k9, m9⟩ := mo_c_X11_watermark_b30 F cs_10 x0 cs9 r9 h
    exact ⟨by omega, by omega⟩
set_option maxHeartbeats 4000000 in
set_option maxRecDepth 100000 in
theorem sa_X11_watermark (l : Launch) (dC : Nat → ClassId) (dI : Nat → Nat → Nat) (cB cI cJ cZ cS cO : ClassId) (b : Nat) (K V : Nat → Nat) (fz : Value) (F : Nat) (cs : CS) (x0 : Nat) (x1 : Int64) (cs9 : CS) (r9 : Int32) (hf : c_X11_watermark F cs x0 x1 = some (cs9, r9)) : oaI l dC dI cB cI cJ cZ cS cO b K V fz yX11_watermark (wsOf yX11_watermark cX11_watermark 3 (some .int)) (309) [.ref (b + x0), .long x1] cs cs9 r9 := by
  obtain ⟨kb9, mb9⟩ := mo_c_X11_watermark F cs x0 x1 cs9 r9 hf
  refine ⟨⟨kb9, mb9⟩, ?_⟩
  refine Met.ofW (cc := cX11_watermark) (maxL := 3) (ret := (some .int)) (by decide) rfl ?_
  intro p e s m args below meth c s₁ B hml hv
  obtain ⟨rfl, hsz, hP, hK, hD0, hZ⟩ := hv
  have hx := B.exec
  have hb := B.bytes
  have hr := B.returns
  have hts := atoms_spec (ws := (wsOf yX11_watermark cX11_watermark 3 (some .int))) B.pre
  have hown : s.vm.findClass RX11 = some m.cls := findClass_of_methodNamed B.named
  have hlocks := B.notSynchronized
  have hD := hD0.self (sz := b + kK cs)
  generalize hAe : va_A (cW cB cI cJ cZ cS cO b cs) (b + kK cs) = A at hD hZ ⊢
  have hA : ∀ q : Nat, s.heap.size ≤ q → A q := fun q h => by rw [← hAe]; exact Or.inr (by omega)
  have hS : va_S A s.heap s.heap [] := va_S.rf
  have hG : va_S A s.heap s.heap [] := va_S.rf
  have hgz : s.heap.size = b + kK cs := hsz
  have hl := lv_entry ([.ref (b + x0), .long x1]) (n := 3) (Nat.le_of_ble_eq_true rfl)
  rw [lg_entry_eq]
  generalize (lg_sl ([.ref (b + x0), .long x1]) ++ List.replicate (3 - (lg_sl ([.ref (b + x0), .long x1])).length) Slot.unset).toArray = ls at hl ⊢
  have hl : lv_has ls 3 [(0, .ref (b + x0)), (1, .long x1)] := hl
  have B_30 : ∀ (cs1 : CS) (u0 : Nat), c_X11_watermark_b30 F cs1 u0 = some (cs9, r9) → kK cs ≤ kK cs1 → kM cs ≤ kM cs1 → ∀ (Gh H : Heap) (locs : List Loc) (ls : Array Slot), va_P (dC, dI) vwCl (cW cB cI cJ cZ cS cO b cs1) H → va_D A (cW cB cI cJ cZ cS cO b cs1) → va_S A s.heap Gh [] → Gh.size = b + kK cs1 → va_S A Gh H locs → lv_has ls 3 [(0, .ref (b + u0))] → W p l e (headSpec (wsOf yX11_watermark cX11_watermark 3 (some .int)) ({ frames := 309, cells := kK cs9 - kK cs, slots := kM cs9 - kM cs, locals := 60 * (309) } : Room)).room s m ([.ref (b + x0), .long x1] : List Value).toArray below meth c H locs (kK cs1 - kK cs) (kM cs1 - kM cs) (MQ below (va_Qi (fun (x : Int32) (_ : Unit) => x = r9) (fun _ t_ => va_P (dC, dI) vwCl (cW cB cI cJ cZ cS cO b cs9) t_.heap ∧ va_D A (cW cB cI cJ cZ cS cO b cs9) ∧ b + kK cs9 ≤ t_.heap.size) A) ([.ref (b + x0), .long x1] : List Value).toArray s (kK cs9 - kK cs) (kM cs9 - kM cs) A) (F0 m 30 ls []) := by
    intro cs1 u0 h hmk hmm Gh H locs ls hP hD hG hgz hS hl
    obtain ⟨kb9, mb9⟩ := mo_c_X11_watermark_b30 F cs1 u0 cs9 r9 h
    unfold c_X11_watermark_b30 at h
    refine lv_aload_n hx hb dX11_watermark_30 rfl (lv_at hl 0 rfl) ?_
    replace h := ob h; obtain ⟨v_1, hv_1, h⟩ := h
    refine fg_X11_98 hx hb hts hown hK hP hv_1 dX11_watermark_31 ?_
    obtain ⟨e1, e2⟩ := Prod.mk.inj (Option.some.inj h)
    rw [e1] at hP hD
    have e3 := congrArg kK e1
    have e4 := congrArg kM e1
    refine W_cnt (c2 := kK cs9 - kK cs) (n2 := kM cs9 - kM cs) (by omega) (by omega) ?_
    exact W.iret (v := v_1) hx hb hr (fun t_ ht hW => ⟨⟨v_1, (), rfl, e2, by rw [ht]; exact hP, hD, by rw [ht]; have := hS.1; omega⟩, (hG.comp hS).F ht⟩) (hG.comp hS).2.2 dX11_watermark_34
  have h := hf
  unfold c_X11_watermark at h
  refine W_cnt (c2 := kK cs - kK cs) (n2 := kM cs - kM cs) (by omega) (by omega) ?_
  refine lv_aload_n hx hb dX11_watermark_0 rfl (lv_at hl 0 rfl) ?_
  refine lv_iconst (v := 0) hx hb dX11_watermark_1 (by decide) ?_
  replace h := ob h; obtain ⟨cs_2, hv_2, h⟩ := h
  obtain ⟨qk_2, qm_2⟩ := pI_k hv_2
  refine fp_X11_98 hx hb hts hown hK hP hD hS hv_2 dX11_watermark_2 (fun H locs hP hD hS => ?_)
  refine lv_lload_n hx hb dX11_watermark_5 rfl (lv_at hl 1 rfl) ?_
  refine lv_aload_n hx hb dX11_watermark_6 rfl (lv_at hl 0 rfl) ?_
  replace h := ob h; obtain ⟨v_3, hv_3, h⟩ := h
  refine fg_X11_16 hx hb hts hown hK hP hv_3 dX11_watermark_7 ?_
  replace h := ob h; obtain ⟨i_4, hi_4, h⟩ := h
  subst hi_4
  replace h := ob h; obtain ⟨v_5, hv_5, h⟩ := h
  refine fg_X11_143 hx hb hts hown hK hP hv_5 dX11_watermark_10 ?_
  refine W.lcmp hx hb dX11_watermark_13 ?_
  refine lv_if_le (tgt := 30) hx hb dX11_watermark_14 (by decide) (fun c_6 => ?_) (fun c_6 => ?_)
  · skip
    have c_6 : x1 ≤ v_5 := (lg_cmp_le _ _).mp c_6
    replace h := (if_pos c_6).symm.trans h
    refine W_cnt (c2 := kK cs_2 - kK cs) (n2 := kM cs_2 - kM cs) (by omega) (by omega) ?_
    exact B_30 cs_2 x0 h (by omega) (by omega) _ _ _ _ hP hD hG (by omega) hS (lv_sub hl [0] rfl)
  · skip
    have c_6 : ¬ (x1 ≤ v_5) := fun h9 => c_6 ((lg_cmp_le _ _).mpr h9)
    replace h := (if_neg c_6).symm.trans h
    refine lv_aload_n hx hb dX11_watermark_17 rfl (lv_at hl 0 rfl) ?_
    replace h := ob h; obtain ⟨v_7, hv_7, h⟩ := h
    refine fg_X11_16 hx hb hts hown hK hP hv_7 dX11_watermark_18 ?_
    refine lv_lload_n hx hb dX11_watermark_21 rfl (lv_at hl 1 rfl) ?_
    replace h := ob h; obtain ⟨i_8, hi_8, h⟩ := h
    subst hi_8
    replace h := ob h; obtain ⟨cs_9, hv_9, h⟩ := h
    obtain ⟨qk_9, qm_9⟩ := pJ_k hv_9
    refine fp_X11_143 hx hb hts hown hK hP hD hS hv_9 dX11_watermark_22 (fun H locs hP hD hS => ?_)
    refine lv_aload_n hx hb dX11_watermark_25 rfl (lv_at hl 0 rfl) ?_
    refine lv_iconst (v := 1) hx hb dX11_watermark_26 (by decide) ?_
    replace h := ob h; obtain ⟨w_11, hw_11, h⟩ := h
    replace h := ob h; obtain ⟨cs_10, hv_10, h⟩ := h
    obtain ⟨qk_10, qm_10⟩ := mo_c_X11_answer F cs_9 x0 1 cs_10 hv_10
    obtain ⟨k9_10, m9_10⟩ := mo_c_X11_watermark_b30 F cs_10 x0 cs9 r9 h
    refine cavV (As := [.int 1]) hx hb hml hts hown hK hP hD hS hG hA (by omega) (by omega) hZ (X := 12) (by decide) rfl (ckE_some hw_11) (sa_X11_answer l dC dI cB cI cJ cZ cS cO b K V fz F cs_9 x0 1 cs_10 hv_10) (cw_X11_X11_answer hts (fr := 308) (Nat.le_of_ble_eq_true rfl) (Nat.le_of_ble_eq_true rfl)) rfl hl.1 (Nat.le_of_ble_eq_true rfl) ⟨by show kK cs - kK cs + (kK cs_10 - kK cs_9) ≤ kK cs9 - kK cs; omega, by show kM cs - kM cs + (kM cs_10 - kM cs_9) ≤ kM cs9 - kM cs; omega⟩ dX11_watermark_27 (fun H locs hP hD hG hgz hS => ?_)
    refine W_cnt (c2 := kK cs_10 - kK cs) (n2 := kM cs_10 - kM cs) (by omega) (by omega) ?_
    exact B_30 cs_10 x0 h (by omega) (by omega) _ _ _ _ hP hD hG (by omega) hS (lv_sub hl [0] rfl)
