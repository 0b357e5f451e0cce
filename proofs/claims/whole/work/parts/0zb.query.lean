/-! the class, mirrored: what makes cells -/
theorem cw_X11_X0_checkQuery {R : Room} {s : State} {args : Array Value} {y0 : MethodName} {c0 : ByteArray} {n0 : Nat} {r0 : Option FieldType} {K V : Nat → Nat} {fz : Value} {A : Nat → Prop} (hZ : zE K V fz A s) (hts : ∀ w ∈ wsOf y0 c0 n0 r0, w.before args s = true) {fr mc ms : Nat} (h1 : fr + 1 ≤ R.frames) (h2 : 8 + (4 + 11) + 60 * fr ≤ R.locals) : va_CN R s args RX11 94 yX0_checkQuery "StreamQueries" cX0_checkQuery 4 none (wsOf yX0_checkQuery cX0_checkQuery 4 none) ({ frames := fr, cells := mc, slots := ms, locals := 60 * fr } : Room) mc ms 1 ∧ (Cond.instanceMethod yX0_checkQuery).before args s = true ∧ (Cond.selects RX0 yX0_checkQuery yX0_checkQuery).before args s = true := ⟨va_cnB 1 hts (gd_all (in_I kc_X0_checkQuery)) rfl rfl rfl hZ.n3 (hts _ (List.mem_cons_of_mem _ kw_204)) (by decide +kernel) ⟨h1, h2⟩, (hts _ (List.mem_cons_of_mem _ kw_1172)), hts _ (List.mem_cons_of_mem _ kw_45)⟩
theorem dX11_init_0 : decode cX11_init 0 = .ok (.aload_n 0, 1) := by decide +kernel
theorem dX11_init_1 : decode cX11_init 1 = .ok (.invokespecial 3, 3) := by decide +kernel
theorem dX11_init_4 : decode cX11_init 4 = .ok (.aload_n 0, 1) := by decide +kernel
theorem dX11_init_5 : decode cX11_init 5 = .ok (.sipush 2000, 3) := by decide +kernel
theorem dX11_init_8 : decode cX11_init 8 = .ok (.newarray .byte, 2) := by decide +kernel
theorem dX11_init_10 : decode cX11_init 10 = .ok (.putfield 9, 3) := by decide +kernel
theorem dX11_init_13 : decode cX11_init 13 = .ok (.aload_n 0, 1) := by decide +kernel
theorem dX11_init_14 : decode cX11_init 14 = .ok (.new 13, 3) := by decide +kernel
theorem dX11_init_17 : decode cX11_init 17 = .ok (.dup, 1) := by decide +kernel
theorem dX11_init_18 : decode cX11_init 18 = .ok (.invokespecial 15, 3) := by decide +kernel
theorem dX11_init_21 : decode cX11_init 21 = .ok (.putfield 16, 3) := by decide +kernel
theorem dX11_init_24 : decode cX11_init 24 = .ok (.aload_n 0, 1) := by decide +kernel
theorem dX11_init_25 : decode cX11_init 25 = .ok (.new 20, 3) := by decide +kernel
theorem dX11_init_28 : decode cX11_init 28 = .ok (.dup, 1) := by decide +kernel
theorem dX11_init_29 : decode cX11_init 29 = .ok (.invokespecial 22, 3) := by decide +kernel
theorem dX11_init_32 : decode cX11_init 32 = .ok (.putfield 23, 3) := by decide +kernel
theorem dX11_init_35 : decode cX11_init 35 = .ok (.aload_n 0, 1) := by decide +kernel
theorem dX11_init_36 : decode cX11_init 36 = .ok (.new 27, 3) := by decide +kernel
theorem dX11_init_39 : decode cX11_init 39 = .ok (.dup, 1) := by decide +kernel
theorem dX11_init_40 : decode cX11_init 40 = .ok (.invokespecial 29, 3) := by decide +kernel
theorem dX11_init_43 : decode cX11_init 43 = .ok (.putfield 30, 3) := by decide +kernel
theorem dX11_init_46 : decode cX11_init 46 = .ok (.aload_n 0, 1) := by decide +kernel
theorem dX11_init_47 : decode cX11_init 47 = .ok (.new 27, 3) := by decide +kernel
theorem dX11_init_50 : decode cX11_init 50 = .ok (.dup, 1) := by decide +kernel
theorem dX11_init_51 : decode cX11_init 51 = .ok (.invokespecial 29, 3) := by decide +kernel
theorem dX11_init_54 : decode cX11_init 54 = .ok (.putfield 34, 3) := by decide +kernel
theorem dX11_init_57 : decode cX11_init 57 = .ok (.aload_n 0, 1) := by decide +kernel
theorem dX11_init_58 : decode cX11_init 58 = .ok (.new 27, 3) := by decide +kernel
theorem dX11_init_61 : decode cX11_init 61 = .ok (.dup, 1) := by decide +kernel
theorem dX11_init_62 : decode cX11_init 62 = .ok (.invokespecial 29, 3) := by decide +kernel
theorem dX11_init_65 : decode cX11_init 65 = .ok (.putfield 37, 3) := by decide +kernel
theorem dX11_init_68 : decode cX11_init 68 = .ok (.aload_n 0, 1) := by decide +kernel
theorem dX11_init_69 : decode cX11_init 69 = .ok (.new 27, 3) := by decide +kernel
theorem dX11_init_72 : decode cX11_init 72 = .ok (.dup, 1) := by decide +kernel
theorem dX11_init_73 : decode cX11_init 73 = .ok (.invokespecial 29, 3) := by decide +kernel
theorem dX11_init_76 : decode cX11_init 76 = .ok (.putfield 40, 3) := by decide +kernel
theorem dX11_init_79 : decode cX11_init 79 = .ok (.aload_n 0, 1) := by decide +kernel
theorem dX11_init_80 : decode cX11_init 80 = .ok (.bipush 8, 2) := by decide +kernel
theorem dX11_init_82 : decode cX11_init 82 = .ok (.newarray .int, 2) := by decide +kernel
theorem dX11_init_84 : decode cX11_init 84 = .ok (.putfield 43, 3) := by decide +kernel
theorem dX11_init_87 : decode cX11_init 87 = .ok (.aload_n 0, 1) := by decide +kernel
theorem dX11_init_88 : decode cX11_init 88 = .ok (.bipush 8, 2) := by decide +kernel
theorem dX11_init_90 : decode cX11_init 90 = .ok (.newarray .int, 2) := by decide +kernel
theorem dX11_init_92 : decode cX11_init 92 = .ok (.putfield 47, 3) := by decide +kernel
theorem dX11_init_95 : decode cX11_init 95 = .ok (.aload_n 0, 1) := by decide +kernel
theorem dX11_init_96 : decode cX11_init 96 = .ok (.new 50, 3) := by decide +kernel
theorem dX11_init_99 : decode cX11_init 99 = .ok (.dup, 1) := by decide +kernel
theorem dX11_init_100 : decode cX11_init 100 = .ok (.iconst 2, 1) := by decide +kernel
theorem dX11_init_101 : decode cX11_init 101 = .ok (.invokespecial 52, 3) := by decide +kernel
theorem dX11_init_104 : decode cX11_init 104 = .ok (.putfield 55, 3) := by decide +kernel
theorem dX11_init_107 : decode cX11_init 107 = .ok (.return_, 1) := by decide +kernel
def c_X11_init_b104 (F : Nat) (cs1 : CS) (y0 : Nat) (y1 : Nat) : Option CS := Option.bind (pR cs1 12 399 y1 (some y0)) fun cs_1 => some cs_1
def c_X11_init_b99 (F : Nat) (cs1 : CS) (y0 : Nat) (y1 : Nat) : Option CS := Option.bind (c_X1_init F cs1 y0 2) fun cs_2 => c_X11_init_b104 F cs_2 y0 y1
def c_X11_init_b95 (F : Nat) (cs1 : CS) (u0 : Nat) : Option CS := Option.bind (nwO cs1 2 13) fun cs_3 => c_X11_init_b99 F cs_3 (kK cs1) u0
def c_X11_init_b87 (F : Nat) (cs1 : CS) (u0 : Nat) : Option CS := Option.bind (nwA cs1 12 397 u0 8) fun cs_4 => c_X11_init_b95 F cs_4 u0
def c_X11_init_b76 (F : Nat) (cs1 : CS) (u0 : Nat) (y0 : Nat) (y1 : Nat) : Option CS := Option.bind (pR cs1 12 394 y1 (some y0)) fun cs_5 => Option.bind (nwA cs_5 12 396 u0 8) fun cs_6 => c_X11_init_b87 F cs_6 u0
def c_X11_init_b72 (F : Nat) (cs1 : CS) (u0 : Nat) (y0 : Nat) (y1 : Nat) : Option CS := Option.bind (c_X8_init F cs1 y0) fun cs_7 => c_X11_init_b76 F cs_7 u0 y0 y1
def c_X11_init_b65 (F : Nat) (cs1 : CS) (u0 : Nat) (y0 : Nat) (y1 : Nat) : Option CS := Option.bind (pR cs1 12 393 y1 (some y0)) fun cs_8 => Option.bind (nwO cs_8 9 4) fun cs_9 => c_X11_init_b72 F cs_9 u0 (kK cs_8) u0
def c_X11_init_b61 (F : Nat) (cs1 : CS) (u0 : Nat) (y0 : Nat) (y1 : Nat) : Option CS := Option.bind (c_X8_init F cs1 y0) fun cs_10 => c_X11_init_b65 F cs_10 u0 y0 y1
def c_X11_init_b54 (F : Nat) (cs1 : CS) (u0 : Nat) (y0 : Nat) (y1 : Nat) : Option CS := Option.bind (pR cs1 12 392 y1 (some y0)) fun cs_11 => Option.bind (nwO cs_11 9 4) fun cs_12 => c_X11_init_b61 F cs_12 u0 (kK cs_11) u0
def c_X11_init_b50 (F : Nat) (cs1 : CS) (u0 : Nat) (y0 : Nat) (y1 : Nat) : Option CS := Option.bind (c_X8_init F cs1 y0) fun cs_13 => c_X11_init_b54 F cs_13 u0 y0 y1
def c_X11_init_b43 (F : Nat) (cs1 : CS) (u0 : Nat) (y0 : Nat) (y1 : Nat) : Option CS := Option.bind (pR cs1 12 391 y1 (some y0)) fun cs_14 => Option.bind (nwO cs_14 9 4) fun cs_15 => c_X11_init_b50 F cs_15 u0 (kK cs_14) u0
def c_X11_init_b39 (F : Nat) (cs1 : CS) (u0 : Nat) (y0 : Nat) (y1 : Nat) : Option CS := Option.bind (c_X8_init F cs1 y0) fun cs_16 => c_X11_init_b43 F cs_16 u0 y0 y1
def c_X11_init_b32 (F : Nat) (cs1 : CS) (u0 : Nat) (y0 : Nat) (y1 : Nat) : Option CS := Option.bind (pR cs1 12 387 y1 (some y0)) fun cs_17 => Option.bind (nwO cs_17 9 4) fun cs_18 => c_X11_init_b39 F cs_18 u0 (kK cs_17) u0
def c_X11_init_b28 (F : Nat) (cs1 : CS) (u0 : Nat) (y0 : Nat) (y1 : Nat) : Option CS := Option.bind (c_X10_init F cs1 y0) fun cs_19 => c_X11_init_b32 F cs_19 u0 y0 y1
def c_X11_init_b21 (F : Nat) (cs1 : CS) (u0 : Nat) (y0 : Nat) (y1 : Nat) : Option CS := Option.bind (pR cs1 12 386 y1 (some y0)) fun cs_20 => Option.bind (nwO cs_20 11 7) fun cs_21 => c_X11_init_b28 F cs_21 u0 (kK cs_20) u0
def c_X11_init_b17 (F : Nat) (cs1 : CS) (u0 : Nat) (y0 : Nat) (y1 : Nat) : Option CS := Option.bind (c_X7_init F cs1 y0) fun cs_22 => c_X11_init_b21 F cs_22 u0 y0 y1
def c_X11_init_b13 (F : Nat) (cs1 : CS) (u0 : Nat) : Option CS := Option.bind (nwO cs1 8 9) fun cs_23 => c_X11_init_b17 F cs_23 u0 (kK cs1) u0
def c_X11_init (F : Nat) (cs : CS) (x0 : Nat) : Option CS := Option.bind (nwA cs 12 384 x0 2000) fun cs_24 => c_X11_init_b13 F cs_24 x0
theorem mo_c_X11_init_b104 (F : Nat) (cs1 : CS) (y0 : Nat) (y1 : Nat) (cs9 : CS) (h : c_X11_init_b104 F cs1 y0 y1 = some cs9) : kK cs1 ≤ kK cs9 ∧ kM cs1 ≤ kM cs9 := by
  unfold c_X11_init_b104 at h
  replace h := ob h; obtain ⟨cs_24, hv_24, h⟩ := h
  obtain ⟨qk_24, qm_24⟩ := pR_k hv_24
  have h9 := Option.some.inj h
  have k9 := congrArg kK h9; have m9 := congrArg kM h9; exact ⟨by omega, by omega⟩
theorem mo_c_X11_init_b99 (F : Nat) (cs1 : CS) (y0 : Nat) (y1 : Nat) (cs9 : CS) (h : c_X11_init_b99 F cs1 y0 y1 = some cs9) : kK cs1 ≤ kK cs9 ∧ kM cs1 ≤ kM cs9 := by
  unfold c_X11_init_b99 at h
  replace h := ob h; obtain ⟨cs_24, hv_24, h⟩ := h
  obtain ⟨qk_24, qm_24⟩ := mo_c_X1_init F cs1 y0 2 cs_24 hv_24
  obtain ⟨k9, m9⟩ := mo_c_X11_init_b104 F cs_24 y0 y1 cs9 h
  exact ⟨by omega, by omega⟩
theorem mo_c_X11_init_b95 (F : Nat) (cs1 : CS) (u0 : Nat) (cs9 : CS) (h : c_X11_init_b95 F cs1 u0 = some cs9) : kK cs1 ≤ kK cs9 ∧ kM cs1 ≤ kM cs9 := by
  unfold c_X11_init_b95 at h
  replace h := ob h; obtain ⟨cs_24, hv_24, h⟩ := h
  obtain ⟨qk_24, qm_24⟩ := nwO_k hv_24
  obtain ⟨k9, m9⟩ := mo_c_X11_init_b99 F cs_24 (kK cs1) u0 cs9 h
  exact ⟨by omega, by omega⟩
theorem mo_c_X11_init_b87 (F : Nat) (cs1 : CS) (u0 : Nat) (cs9 : CS) (h : c_X11_init_b87 F cs1 u0 = some cs9) : kK cs1 ≤ kK cs9 ∧ kM cs1 ≤ kM cs9 := by
  unfold c_X11_init_b87 at h
  replace h := ob h; obtain ⟨cs_24, hv_24, h⟩ := h
  obtain ⟨qk_24, qm_24⟩ := nwA_k hv_24
  obtain ⟨k9, m9⟩ := mo_c_X11_init_b95 F cs_24 u0 cs9 h
  exact ⟨by omega, by omega⟩
theorem mo_c_X11_init_b76 (F : Nat) (cs1 : CS) (u0 : Nat) (y0 : Nat) (y1 : Nat) (cs9 : CS) (h : c_X11_init_b76 F cs1 u0 y0 y1 = some cs9) : kK cs1 ≤ kK cs9 ∧ kM cs1 ≤ kM cs9 := by
  unfold c_X11_init_b76 at h
  replace h := ob h; obtain ⟨cs_24, hv_24, h⟩ := h
  obtain ⟨qk_24, qm_24⟩ := pR_k hv_24
  replace h := ob h; obtain ⟨cs_25, hv_25, h⟩ := h
  obtain ⟨qk_25, qm_25⟩ := nwA_k hv_25
  obtain ⟨k9, m9⟩ := mo_c_X11_init_b87 F cs_25 u0 cs9 h
  exact ⟨by omega, by omega⟩
theorem mo_c_X11_init_b72 (F : Nat) (cs1 : CS) (u0 : Nat) (y0 : Nat) (y1 : Nat) (cs9 : CS) (h : c_X11_init_b72 F cs1 u0 y0 y1 = some cs9) : kK cs1 ≤ kK cs9 ∧ kM cs1 ≤ kM cs9 := by
  unfold c_X11_init_b72 at h
  replace h := ob h; obtain ⟨cs_24, hv_24, h⟩ := h
  obtain ⟨qk_24, qm_24⟩ := mo_c_X8_init F cs1 y0 cs_24 hv_24
  obtain ⟨k9, m9⟩ := mo_c_X11_init_b76 F cs_24 u0 y0 y1 cs9 h
  exact ⟨by omega, by omega⟩
theorem mo_c_X11_init_b65 (F : Nat) (cs1 : CS) (u0 : Nat) (y0 : Nat) (y1 : Nat) (cs9 : CS) (h : c_X11_init_b65 F cs1 u0 y0 y1 = some cs9) : kK cs1 ≤ kK cs9 ∧ kM cs1 ≤ kM cs9 := by
  unfold c_X11_init_b65 at h
  replace h := ob h; obtain ⟨cs_24, hv_24, h⟩ := h
  obtain ⟨qk_24, qm_24⟩ := pR_k hv_24
  replace h := ob h; obtain ⟨cs_25, hv_25, h⟩ := h
  obtain ⟨qk_25, qm_25⟩ := nwO_k hv_25
  obtain ⟨k9, m9⟩ := mo_c_X11_init_b72 F cs_25 u0 (kK cs_24) u0 cs9 h
  exact ⟨by omega, by omega⟩
theorem mo_c_X11_init_b61 (F : Nat) (cs1 : CS) (u0 : Nat) (y0 : Nat) (y1 : Nat) (cs9 : CS) (h : c_X11_init_b61 F cs1 u0 y0 y1 = some cs9) : kK cs1 ≤ kK cs9 ∧ kM cs1 ≤ kM cs9 := by
  unfold c_X11_init_b61 at h
  replace h := ob h; obtain ⟨cs_24, hv_24, h⟩ := h
  obtain ⟨qk_24, qm_24⟩ := mo_c_X8_init F cs1 y0 cs_24 hv_24
  obtain ⟨k9, m9⟩ := mo_c_X11_init_b65 F cs_24 u0 y0 y1 cs9 h
  exact ⟨by omega, by omega⟩
theorem mo_c_X11_init_b54 (F : Nat) (cs1 : CS) (u0 : Nat) (y0 : Nat) (y1 : Nat) (cs9 : CS) (h : c_X11_init_b54 F cs1 u0 y0 y1 = some cs9) : kK cs1 ≤ kK cs9 ∧ kM cs1 ≤ kM cs9 := by
  unfold c_X11_init_b54 at h
  replace h := ob h; obtain ⟨cs_24, hv_24, h⟩ := h
  obtain ⟨qk_24, qm_24⟩ := pR_k hv_24
  replace h := ob h; obtain ⟨cs_25, hv_25, h⟩ := h
  obtain ⟨qk_25, qm_25⟩ := nwO_k hv_25
  obtain ⟨k9, m9⟩ := mo_c_X11_init_b61 F cs_25 u0 (kK cs_24) u0 cs9 h
  exact ⟨by omega, by omega⟩
theorem mo_c_X11_init_b50 (F : Nat) (cs1 : CS) (u0 : Nat) (y0 : Nat) (y1 : Nat) (cs9 : CS) (h : c_X11_init_b50 F cs1 u0 y0 y1 = some cs9) : kK cs1 ≤ kK cs9 ∧ kM cs1 ≤ kM cs9 := by
  unfold c_X11_init_b50 at h
  replace h := ob h; obtain ⟨cs_24, hv_24, h⟩ := h
  obtain ⟨qk_24, qm_24⟩ := mo_c_X8_init F cs1 y0 cs_24 hv_24
  obtain ⟨k9, m9⟩ := mo_c_X11_init_b54 F cs_24 u0 y0 y1 cs9 h
  exact ⟨by omega, by omega⟩
theorem mo_c_X11_init_b43 (F : Nat) (cs1 : CS) (u0 : Nat) (y0 : Nat) (y1 : Nat) (cs9 : CS) (h : c_X11_init_b43 F cs1 u0 y0 y1 = some cs9) : kK cs1 ≤ kK cs9 ∧ kM cs1 ≤ kM cs9 := by
  unfold c_X11_init_b43 at h
  replace h := ob h; obtain ⟨cs_24, hv_24, h⟩ := h
  obtain ⟨qk_24, qm_24⟩ := pR_k hv_24
  replace h := ob h; obtain ⟨cs_25, hv_25, h⟩ := h
  obtain ⟨qk_25, qm_25⟩ := nwO_k hv_25
  obtain ⟨k9, m9⟩ := mo_c_X11_init_b50 F cs_25 u0 (kK cs_24) u0 cs9 h
  exact ⟨by omega, by omega⟩
theorem mo_c_X11_init_b39 (F : Nat) (cs1 : CS) (u0 : Nat) (y0 : Nat) (y1 : Nat) (cs9 : CS) (h : c_X11_init_b39 F cs1 u0 y0 y1 = some cs9) : kK cs1 ≤ kK cs9 ∧ kM cs1 ≤ kM cs9 := by
  unfold c_X11_init_b39 at h
  replace h := ob h; obtain ⟨cs_24, hv_24, h⟩ := h
  obtain ⟨qk_24, qm_24⟩ := mo_c_X8_init F cs1 y0 cs_24 hv_24
  obtain ⟨k9, m9⟩ := mo_c_X11_init_b43 F cs_24 u0 y0 y1 cs9 h
  exact ⟨by omega, by omega⟩
theorem mo_c_X11_init_b32 (F : Nat) (cs1 : CS) (u0 : Nat) (y0 : Nat) (y1 : Nat) (cs9 : CS) (h : c_X11_init_b32 F cs1 u0 y0 y1 = some cs9) : kK cs1 ≤ kK cs9 ∧ kM cs1 ≤ kM cs9 := by
  unfold c_X11_init_b32 at h
  replace h := ob h; obtain ⟨cs_24, hv_24, h⟩ := h
  obtain ⟨qk_24, qm_24⟩ := pR_k hv_24
  replace h := ob h; obtain ⟨cs_25, hv_25, h⟩ := h
  obtain ⟨qk_25, qm_25⟩ := nwO_k hv_25
  obtain ⟨k9, m9⟩ := mo_c_X11_init_b39 F cs_25 u0 (kK cs_24) u0 cs9 h
  exact ⟨by omega, by omega⟩
theorem mo_c_X11_init_b28 (F : Nat) (cs1 : CS) (u0 : Nat) (y0 : Nat) (y1 : Nat) (cs9 : CS) (h : c_X11_init_b28 F cs1 u0 y0 y1 = some cs9) : kK cs1 ≤ kK cs9 ∧ kM cs1 ≤ kM cs9 := by
  unfold c_X11_init_b28 at h
  replace h := ob h; obtain ⟨cs_24, hv_24, h⟩ := h
  obtain ⟨qk_24, qm_24⟩ := mo_c_X10_init F cs1 y0 cs_24 hv_24
  obtain ⟨k9, m9⟩ := mo_c_X11_init_b32 F cs_24 u0 y0 y1 cs9 h
  exact ⟨by omega, by omega⟩
theorem mo_c_X11_init_b21 (F : Nat) (cs1 : CS) (u0 : Nat) (y0 : Nat) (y1 : Nat) (cs9 : CS) (h : c_X11_init_b21 F cs1 u0 y0 y1 = some cs9) : kK cs1 ≤ kK cs9 ∧ kM cs1 ≤ kM cs9 := by
  unfold c_X11_init_b21 at h
  replace h := ob h; obtain ⟨cs_24, hv_24, h⟩ := h
  obtain ⟨qk_24, qm_24⟩ := pR_k hv_24
  replace h := ob h; obtain ⟨cs_25, hv_25, h⟩ := h
  obtain ⟨qk_25, qm_25⟩ := nwO_k hv_25
  obtain ⟨k9, m9⟩ := mo_c_X11_init_b28 F cs_25 u0 (kK cs_24) u0 cs9 h
  exact ⟨by omega, by omega⟩
theorem mo_c_X11_init_b17 (F : Nat) (cs1 : CS) (u0 : Nat) (y0 : Nat) (y1 : Nat) (cs9 : CS) (h : c_X11_init_b17 F cs1 u0 y0 y1 = some cs9) : kK cs1 ≤ kK cs9 ∧ kM cs1 ≤ kM cs9 := by
  unfold c_X11_init_b17 at h
  replace h := ob h; obtain ⟨cs_24, hv_24, h⟩ := h
  obtain ⟨qk_24, qm_24⟩ := mo_c_X7_init F cs1 y0 cs_24 hv_24
  obtain ⟨k9, m9⟩ := mo_c_X11_init_b21 F cs_24 u0 y0 y1 cs9 h
  exact ⟨by omega, by omega⟩
theorem mo_c_X11_init_b13 (F : Nat) (cs1 : CS) (u0 : Nat) (cs9 : CS) (h : c_X11_init_b13 F cs1 u0 = some cs9) : kK cs1 ≤ kK cs9 ∧ kM cs1 ≤ kM cs9 := by
  unfold c_X11_init_b13 at h
  replace h := ob h; obtain ⟨cs_24, hv_24, h⟩ := h
  obtain ⟨qk_24, qm_24⟩ := nwO_k hv_24
  obtain ⟨k9, m9⟩ := mo_c_X11_init_b17 F cs_24 u0 (kK cs1) u0 cs9 h
  exact ⟨by omega, by omega⟩
theorem mo_c_X11_init (F : Nat) (cs : CS) (x0 : Nat) (cs9 : CS) (h : c_X11_init F cs x0 = some cs9) : kK cs ≤ kK cs9 ∧ kM cs ≤ kM cs9 := by
  unfold c_X11_init at h
  replace h := ob h; obtain ⟨cs_24, hv_24, h⟩ := h
  obtain ⟨qk_24, qm_24⟩ := nwA_k hv_24
  obtain ⟨k9, m9⟩ := mo_c_X11_init_b13 F cs_24 x0 cs9 h
  exact ⟨by omega, by omega⟩
set_option maxHeartbeats 4000000 in
set_option maxRecDepth 100000 in
theorem sa_X11_init (l : Launch) (dC : Nat → ClassId) (dI : Nat → Nat → Nat) (cB cI cJ cZ cS cO : ClassId) (b : Nat) (K V : Nat → Nat) (fz : Value) (F : Nat) (cs : CS) (x0 : Nat) (cs9 : CS) (hf : c_X11_init F cs x0 = some cs9) : oaV l dC dI cB cI cJ cZ cS cO b K V fz yX11_init (wsOf yX11_init cX11_init 1 none) (8) [.ref (b + x0)] cs cs9 := by
  obtain ⟨kb9, mb9⟩ := mo_c_X11_init F cs x0 cs9 hf
  refine ⟨⟨kb9, mb9⟩, ?_⟩
  refine Met.ofW (cc := cX11_init) (maxL := 1) (ret := none) (by decide) rfl ?_
  intro p e s m args below meth c s₁ B hml hv
  obtain ⟨rfl, hsz, hP, hK, hD0, hZ⟩ := hv
  have hx := B.exec
  have hb := B.bytes
  have hr := B.returns
  have hts := atoms_spec (ws := (wsOf yX11_init cX11_init 1 none)) B.pre
  have hown : s.vm.findClass RX11 = some m.cls := findClass_of_methodNamed B.named
  have hin : meth.name = "<init>" := (name_of_methodNamed B.named B.method).1
  have hlocks := B.notSynchronized
  have hD := hD0.self (sz := b + kK cs)
  generalize hAe : va_A (cW cB cI cJ cZ cS cO b cs) (b + kK cs) = A at hD hZ ⊢
  have hA : ∀ q : Nat, s.heap.size ≤ q → A q := fun q h => by rw [← hAe]; exact Or.inr (by omega)
  have hS : va_S A s.heap s.heap [] := va_S.rf
  have hG : va_S A s.heap s.heap [] := va_S.rf
  have hgz : s.heap.size = b + kK cs := hsz
  have hl := lv_entry ([.ref (b + x0)]) (n := 1) (Nat.le_of_ble_eq_true rfl)
  rw [lg_entry_eq]
  generalize (lg_sl ([.ref (b + x0)]) ++ List.replicate (1 - (lg_sl ([.ref (b + x0)])).length) Slot.unset).toArray = ls at hl ⊢
  have hl : lv_has ls 1 [(0, .ref (b + x0))] := hl
  have B_104 : ∀ (cs1 : CS) (y0 : Nat) (y1 : Nat), c_X11_init_b104 F cs1 y0 y1 = some cs9 → kK cs ≤ kK cs1 → kM cs ≤ kM cs1 → ∀ (Gh H : Heap) (locs : List Loc) (ls : Array Slot), va_P (dC, dI) vwCl (cW cB cI cJ cZ cS cO b cs1) H → va_D A (cW cB cI cJ cZ cS cO b cs1) → va_S A s.heap Gh [] → Gh.size = b + kK cs1 → va_S A Gh H locs → lv_has ls 1 [] → W p l e (headSpec (wsOf yX11_init cX11_init 1 none) ({ frames := 8, cells := kK cs9 - kK cs, slots := kM cs9 - kM cs, locals := 60 * (8) } : Room)).room s m ([.ref (b + x0)] : List Value).toArray below meth c H locs (kK cs1 - kK cs) (kM cs1 - kM cs) (MQ below (va_Qv (fun (_ : Unit) => True) (fun _ t_ => va_P (dC, dI) vwCl (cW cB cI cJ cZ cS cO b cs9) t_.heap ∧ va_D A (cW cB cI cJ cZ cS cO b cs9) ∧ b + kK cs9 ≤ t_.heap.size) A) ([.ref (b + x0)] : List Value).toArray s (kK cs9 - kK cs) (kM cs9 - kM cs) A) (F0 m 104 ls [.ref (b + y0), .ref (b + y1)]) := by
    intro cs1 y0 y1 h hmk hmm Gh H locs ls hP hD hG hgz hS hl
    obtain ⟨kb9, mb9⟩ := mo_c_X11_init_b104 F cs1 y0 y1 cs9 h
    unfold c_X11_init_b104 at h
    replace h := ob h; obtain ⟨cs_1, hv_1, h⟩ := h
    obtain ⟨qk_1, qm_1⟩ := pR_k hv_1
    refine fp_X11_55 (v := (some y0)) hx hb hts hown hK hP hD hS hin hv_1 dX11_init_104 (fun H locs hP hD hS => ?_)
    have e1 := Option.some.inj h
    rw [e1] at hP hD
    have e3 := congrArg kK e1
    have e4 := congrArg kM e1
    refine W_cnt (c2 := kK cs9 - kK cs) (n2 := kM cs9 - kM cs) (by omega) (by omega) ?_
    exact W.vret hx hb hr (fun t_ ht hW => ⟨⟨(), rfl, trivial, by rw [ht]; exact hP, hD, by rw [ht]; have := hS.1; omega⟩, (hG.comp hS).F ht⟩) (hG.comp hS).2.2 dX11_init_107
  have B_99 : ∀ (cs1 : CS) (y0 : Nat) (y1 : Nat), c_X11_init_b99 F cs1 y0 y1 = some cs9 → kK cs ≤ kK cs1 → kM cs ≤ kM cs1 → ∀ (Gh H : Heap) (locs : List Loc) (ls : Array Slot), va_P (dC, dI) vwCl (cW cB cI cJ cZ cS cO b cs1) H → va_D A (cW cB cI cJ cZ cS cO b cs1) → va_S A s.heap Gh [] → Gh.size = b + kK cs1 → va_S A Gh H locs → lv_has ls 1 [] → W p l e (headSpec (wsOf yX11_init cX11_init 1 none) ({ frames := 8, cells := kK cs9 - kK cs, slots := kM cs9 - kM cs, locals := 60 * (8) } : Room)).room s m ([.ref (b + x0)] : List Value).toArray below meth c H locs (kK cs1 - kK cs) (kM cs1 - kM cs) (MQ below (va_Qv (fun (_ : Unit) => True) (fun _ t_ => va_P (dC, dI) vwCl (cW cB cI cJ cZ cS cO b cs9) t_.heap ∧ va_D A (cW cB cI cJ cZ cS cO b cs9) ∧ b + kK cs9 ≤ t_.heap.size) A) ([.ref (b + x0)] : List Value).toArray s (kK cs9 - kK cs) (kM cs9 - kM cs) A) (F0 m 99 ls [.ref (b + y0), .ref (b + y1)]) := by
    intro cs1 y0 y1 h hmk hmm Gh H locs ls hP hD hG hgz hS hl
    obtain ⟨kb9, mb9⟩ := mo_c_X11_init_b99 F cs1 y0 y1 cs9 h
    unfold c_X11_init_b99 at h
    refine lv_dup hx hb dX11_init_99 rfl ?_
    refine lv_iconst (v := 2) hx hb dX11_init_100 (by decide) ?_
    replace h := ob h; obtain ⟨cs_2, hv_2, h⟩ := h
    obtain ⟨qk_2, qm_2⟩ := mo_c_X1_init F cs1 y0 2 cs_2 hv_2
    obtain ⟨k9_2, m9_2⟩ := mo_c_X11_init_b104 F cs_2 y0 y1 cs9 h
    refine caiV (As := [.int 2]) hx hb hml hts hown hK hP hD hS hG hA (by omega) (by omega) hZ (sa_X1_init l dC dI cB cI cJ cZ cS cO b K V fz F cs1 y0 2 cs_2 hv_2) (cw_X11_X1_init hts (fr := 1) (Nat.le_of_ble_eq_true rfl) (Nat.le_of_ble_eq_true rfl)) rfl hl.1 (Nat.le_of_ble_eq_true rfl) ⟨by show kK cs1 - kK cs + (kK cs_2 - kK cs1) ≤ kK cs9 - kK cs; omega, by show kM cs1 - kM cs + (kM cs_2 - kM cs1) ≤ kM cs9 - kM cs; omega⟩ dX11_init_101 (fun H locs hP hD hG hgz hS => ?_)
    refine W_cnt (c2 := kK cs_2 - kK cs) (n2 := kM cs_2 - kM cs) (by omega) (by omega) ?_
    exact B_104 cs_2 y0 y1 h (by omega) (by omega) _ _ _ _ hP hD hG (by omega) hS (lv_sub hl [] rfl)
  have B_95 : ∀ (cs1 : CS) (u0 : Nat), c_X11_init_b95 F cs1 u0 = some cs9 → kK cs ≤ kK cs1 → kM cs ≤ kM cs1 → ∀ (Gh H : Heap) (locs : List Loc) (ls : Array Slot), va_P (dC, dI) vwCl (cW cB cI cJ cZ cS cO b cs1) H → va_D A (cW cB cI cJ cZ cS cO b cs1) → va_S A s.heap Gh [] → Gh.size = b + kK cs1 → va_S A Gh H locs → lv_has ls 1 [(0, .ref (b + u0))] → W p l e (headSpec (wsOf yX11_init cX11_init 1 none) ({ frames := 8, cells := kK cs9 - kK cs, slots := kM cs9 - kM cs, locals := 60 * (8) } : Room)).room s m ([.ref (b + x0)] : List Value).toArray below meth c H locs (kK cs1 - kK cs) (kM cs1 - kM cs) (MQ below (va_Qv (fun (_ : Unit) => True) (fun _ t_ => va_P (dC, dI) vwCl (cW cB cI cJ cZ cS cO b cs9) t_.heap ∧ va_D A (cW cB cI cJ cZ cS cO b cs9) ∧ b + kK cs9 ≤ t_.heap.size) A) ([.ref (b + x0)] : List Value).toArray s (kK cs9 - kK cs) (kM cs9 - kM cs) A) (F0 m 95 ls []) := by
    intro cs1 u0 h hmk hmm Gh H locs ls hP hD hG hgz hS hl
    obtain ⟨kb9, mb9⟩ := mo_c_X11_init_b95 F cs1 u0 cs9 h
    unfold c_X11_init_b95 at h
    refine lv_aload_n hx hb dX11_init_95 rfl (lv_at hl 0 rfl) ?_
    replace h := ob h; obtain ⟨cs_3, hv_3, h⟩ := h
    obtain ⟨qk_3, qm_3⟩ := nwO_k hv_3
    obtain ⟨k9_3, m9_3⟩ := mo_c_X11_init_b99 F cs_3 (kK cs1) u0 cs9 h
    refine new_X11_50 hx hb hts hown hK hP hD hS hG hA (by omega) (by omega) ⟨by show kK cs1 - kK cs + 1 ≤ kK cs9 - kK cs; omega, by show kM cs1 - kM cs + 13 ≤ kM cs9 - kM cs; omega⟩ hv_3 dX11_init_96 (fun H locs hP hD hG hgz hS => ?_)
    refine W_cnt (c2 := kK cs_3 - kK cs) (n2 := kM cs_3 - kM cs) (by omega) (by omega) ?_
    exact B_99 cs_3 (kK cs1) u0 h (by omega) (by omega) _ _ _ _ hP hD hG (by omega) hS (lv_sub hl [] rfl)
  have B_87 : ∀ (cs1 : CS) (u0 : Nat), c_X11_init_b87 F cs1 u0 = some cs9 → kK cs ≤ kK cs1 → kM cs ≤ kM cs1 → ∀ (Gh H : Heap) (locs : List Loc) (ls : Array Slot), va_P (dC, dI) vwCl (cW cB cI cJ cZ cS cO b cs1) H → va_D A (cW cB cI cJ cZ cS cO b cs1) → va_S A s.heap Gh [] → Gh.size = b + kK cs1 → va_S A Gh H locs → lv_has ls 1 [(0, .ref (b + u0))] → W p l e (headSpec (wsOf yX11_init cX11_init 1 none) ({ frames := 8, cells := kK cs9 - kK cs, slots := kM cs9 - kM cs, locals := 60 * (8) } : Room)).room s m ([.ref (b + x0)] : List Value).toArray below meth c H locs (kK cs1 - kK cs) (kM cs1 - kM cs) (MQ below (va_Qv (fun (_ : Unit) => True) (fun _ t_ => va_P (dC, dI) vwCl (cW cB cI cJ cZ cS cO b cs9) t_.heap ∧ va_D A (cW cB cI cJ cZ cS cO b cs9) ∧ b + kK cs9 ≤ t_.heap.size) A) ([.ref (b + x0)] : List Value).toArray s (kK cs9 - kK cs) (kM cs9 - kM cs) A) (F0 m 87 ls []) := by
    intro cs1 u0 h hmk hmm Gh H locs ls hP hD hG hgz hS hl
    obtain ⟨kb9, mb9⟩ := mo_c_X11_init_b87 F cs1 u0 cs9 h
    unfold c_X11_init_b87 at h
    refine lv_aload_n hx hb dX11_init_87 rfl (lv_at hl 0 rfl) ?_
    refine lv_bipush (v := 8) hx hb dX11_init_88 (by decide) ?_
    replace h := ob h; obtain ⟨cs_4, hv_4, h⟩ := h
    obtain ⟨qk_4, qm_4⟩ := nwA_k hv_4
    obtain ⟨k9_4, m9_4⟩ := mo_c_X11_init_b95 F cs_4 u0 cs9 h
    refine nar_X11_47 hx hb hts hown hK hP hD hS hG hA (by omega) (by omega) ⟨by show kK cs1 - kK cs + 1 ≤ kK cs9 - kK cs; omega, by show kM cs1 - kM cs + (8 : Int32).toNatClampNeg ≤ kM cs9 - kM cs; omega⟩ hv_4 dX11_init_90 dX11_init_92 (fun H locs hP hD hG hgz hS => ?_)
    refine W_cnt (c2 := kK cs_4 - kK cs) (n2 := kM cs_4 - kM cs) (by omega) (by omega) ?_
    exact B_95 cs_4 u0 h (by omega) (by omega) _ _ _ _ hP hD hG (by omega) hS (lv_sub hl [0] rfl)
  have B_76 : ∀ (cs1 : CS) (u0 : Nat) (y0 : Nat) (y1 : Nat), c_X11_init_b76 F cs1 u0 y0 y1 = some cs9 → kK cs ≤ kK cs1 → kM cs ≤ kM cs1 → ∀ (Gh H : Heap) (locs : List Loc) (ls : Array Slot), va_P (dC, dI) vwCl (cW cB cI cJ cZ cS cO b cs1) H → va_D A (cW cB cI cJ cZ cS cO b cs1) → va_S A s.heap Gh [] → Gh.size = b + kK cs1 → va_S A Gh H locs → lv_has ls 1 [(0, .ref (b + u0))] → W p l e (headSpec (wsOf yX11_init cX11_init 1 none) ({ frames := 8, cells := kK cs9 - kK cs, slots := kM cs9 - kM cs, locals := 60 * (8) } : Room)).room s m ([.ref (b + x0)] : List Value).toArray below meth c H locs (kK cs1 - kK cs) (kM cs1 - kM cs) (MQ below (va_Qv (fun (_ : Unit) => True) (fun _ t_ => va_P (dC, dI) vwCl (cW cB cI cJ cZ cS cO b cs9) t_.heap ∧ va_D A (cW cB cI cJ cZ cS cO b cs9) ∧ b + kK cs9 ≤ t_.heap.size) A) ([.ref (b + x0)] : List Value).toArray s (kK cs9 - kK cs) (kM cs9 - kM cs) A) (F0 m 76 ls [.ref (b + y0), .ref (b + y1)]) := by
    intro cs1 u0 y0 y1 h hmk hmm Gh H locs ls hP hD hG hgz hS hl
    obtain ⟨kb9, mb9⟩ := mo_c_X11_init_b76 F cs1 u0 y0 y1 cs9 h
    unfold c_X11_init_b76 at h
    replace h := ob h; obtain ⟨cs_5, hv_5, h⟩ := h
    obtain ⟨qk_5, qm_5⟩ := pR_k hv_5
    refine fp_X11_40 (v := (some y0)) hx hb hts hown hK hP hD hS hin hv_5 dX11_init_76 (fun H locs hP hD hS => ?_)
    refine lv_aload_n hx hb dX11_init_79 rfl (lv_at hl 0 rfl) ?_
    refine lv_bipush (v := 8) hx hb dX11_init_80 (by decide) ?_
    replace h := ob h; obtain ⟨cs_6, hv_6, h⟩ := h
    obtain ⟨qk_6, qm_6⟩ := nwA_k hv_6
    obtain ⟨k9_6, m9_6⟩ := mo_c_X11_init_b87 F cs_6 u0 cs9 h
    refine nar_X11_43 hx hb hts hown hK hP hD hS hG hA (by omega) (by omega) ⟨by show kK cs1 - kK cs + 1 ≤ kK cs9 - kK cs; omega, by show kM cs1 - kM cs + (8 : Int32).toNatClampNeg ≤ kM cs9 - kM cs; omega⟩ hv_6 dX11_init_82 dX11_init_84 (fun H locs hP hD hG hgz hS => ?_)
    refine W_cnt (c2 := kK cs_6 - kK cs) (n2 := kM cs_6 - kM cs) (by omega) (by omega) ?_
    exact B_87 cs_6 u0 h (by omega) (by omega) _ _ _ _ hP hD hG (by omega) hS (lv_sub hl [0] rfl)
  have B_72 : ∀ (cs1 : CS) (u0 : Nat) (y0 : Nat) (y1 : Nat), c_X11_init_b72 F cs1 u0 y0 y1 = some cs9 → kK cs ≤ kK cs1 → kM cs ≤ kM cs1 → ∀ (Gh H : Heap) (locs : List Loc) (ls : Array Slot), va_P (dC, dI) vwCl (cW cB cI cJ cZ cS cO b cs1) H → va_D A (cW cB cI cJ cZ cS cO b cs1) → va_S A s.heap Gh [] → Gh.size = b + kK cs1 → va_S A Gh H locs → lv_has ls 1 [(0, .ref (b + u0))] → W p l e (headSpec (wsOf yX11_init cX11_init 1 none) ({ frames := 8, cells := kK cs9 - kK cs, slots := kM cs9 - kM cs, locals := 60 * (8) } : Room)).room s m ([.ref (b + x0)] : List Value).toArray below meth c H locs (kK cs1 - kK cs) (kM cs1 - kM cs) (MQ below (va_Qv (fun (_ : Unit) => True) (fun _ t_ => va_P (dC, dI) vwCl (cW cB cI cJ cZ cS cO b cs9) t_.heap ∧ va_D A (cW cB cI cJ cZ cS cO b cs9) ∧ b + kK cs9 ≤ t_.heap.size) A) ([.ref (b + x0)] : List Value).toArray s (kK cs9 - kK cs) (kM cs9 - kM cs) A) (F0 m 72 ls [.ref (b + y0), .ref (b + y1)]) := by
    intro cs1 u0 y0 y1 h hmk hmm Gh H locs ls hP hD hG hgz hS hl
    obtain ⟨kb9, mb9⟩ := mo_c_X11_init_b72 F cs1 u0 y0 y1 cs9 h
    unfold c_X11_init_b72 at h
    refine lv_dup hx hb dX11_init_72 rfl ?_
    replace h := ob h; obtain ⟨cs_7, hv_7, h⟩ := h
    obtain ⟨qk_7, qm_7⟩ := mo_c_X8_init F cs1 y0 cs_7 hv_7
    obtain ⟨k9_7, m9_7⟩ := mo_c_X11_init_b76 F cs_7 u0 y0 y1 cs9 h
    refine caiV (As := []) hx hb hml hts hown hK hP hD hS hG hA (by omega) (by omega) hZ (sa_X8_init l dC dI cB cI cJ cZ cS cO b K V fz F cs1 y0 cs_7 hv_7) (cw_X11_X8_init hts (fr := 1) (Nat.le_of_ble_eq_true rfl) (Nat.le_of_ble_eq_true rfl)) rfl hl.1 (Nat.le_of_ble_eq_true rfl) ⟨by show kK cs1 - kK cs + (kK cs_7 - kK cs1) ≤ kK cs9 - kK cs; omega, by show kM cs1 - kM cs + (kM cs_7 - kM cs1) ≤ kM cs9 - kM cs; omega⟩ dX11_init_73 (fun H locs hP hD hG hgz hS => ?_)
    refine W_cnt (c2 := kK cs_7 - kK cs) (n2 := kM cs_7 - kM cs) (by omega) (by omega) ?_
    exact B_76 cs_7 u0 y0 y1 h (by omega) (by omega) _ _ _ _ hP hD hG (by omega) hS (lv_sub hl [0] rfl)
  have B_65 : ∀ (cs1 : CS) (u0 : Nat) (y0 : Nat) (y1 : Nat), c_X11_init_b65 F cs1 u0 y0 y1 = some cs9 → kK cs ≤ kK cs1 → kM cs ≤ kM cs1 → ∀ (Gh H : Heap) (locs : List Loc) (ls : Array Slot), va_P (dC, dI) vwCl (cW cB cI cJ cZ cS cO b cs1) H → va_D A (cW cB cI cJ cZ cS cO b cs1) → va_S A s.heap Gh [] → Gh.size = b + kK cs1 → va_S A Gh H locs → lv_has ls 1 [(0, .ref (b + u0))] → W p l e (headSpec (wsOf yX11_init cX11_init 1 none) ({ frames := 8, cells := kK cs9 - kK cs, slots := kM cs9 - kM cs, locals := 60 * (8) } : Room)).room s m ([.ref (b + x0)] : List Value).toArray below meth c H locs (kK cs1 - kK cs) (kM cs1 - kM cs) (MQ below (va_Qv (fun (_ : Unit) => True) (fun _ t_ => va_P (dC, dI) vwCl (cW cB cI cJ cZ cS cO b cs9) t_.heap ∧ va_D A (cW cB cI cJ cZ cS cO b cs9) ∧ b + kK cs9 ≤ t_.heap.size) A) ([.ref (b + x0)] : List Value).toArray s (kK cs9 - kK cs) (kM cs9 - kM cs) A) (F0 m 65 ls [.ref (b + y0), .ref (b + y1)]) := by
    intro cs1 u0 y0 y1 h hmk hmm Gh H locs ls hP hD hG hgz hS hl
    obtain ⟨kb9, mb9⟩ := mo_c_X11_init_b65 F cs1 u0 y0 y1 cs9 h
    unfold c_X11_init_b65 at h
    replace h := ob h; obtain ⟨cs_8, hv_8, h⟩ := h
    obtain ⟨qk_8, qm_8⟩ := pR_k hv_8
    refine fp_X11_37 (v := (some y0)) hx hb hts hown hK hP hD hS hin hv_8 dX11_init_65 (fun H locs hP hD hS => ?_)
    refine lv_aload_n hx hb dX11_init_68 rfl (lv_at hl 0 rfl) ?_
    replace h := ob h; obtain ⟨cs_9, hv_9, h⟩ := h
    obtain ⟨qk_9, qm_9⟩ := nwO_k hv_9
    obtain ⟨k9_9, m9_9⟩ := mo_c_X11_init_b72 F cs_9 u0 (kK cs_8) u0 cs9 h
    refine new_X11_27 hx hb hts hown hK hP hD hS hG hA (by omega) (by omega) ⟨by show kK cs1 - kK cs + 1 ≤ kK cs9 - kK cs; omega, by show kM cs1 - kM cs + 4 ≤ kM cs9 - kM cs; omega⟩ hv_9 dX11_init_69 (fun H locs hP hD hG hgz hS => ?_)
    refine W_cnt (c2 := kK cs_9 - kK cs) (n2 := kM cs_9 - kM cs) (by omega) (by omega) ?_
    exact B_72 cs_9 u0 (kK cs_8) u0 h (by omega) (by omega) _ _ _ _ hP hD hG (by omega) hS (lv_sub hl [0] rfl)
  have B_61 : ∀ (cs1 : CS) (u0 : Nat) (y0 : Nat) (y1 : Nat), c_X11_init_b61 F cs1 u0 y0 y1 = some cs9 → kK cs ≤ kK cs1 → kM cs ≤ kM cs1 → ∀ (Gh H : Heap) (locs : List Loc) (ls : Array Slot), va_P (dC, dI) vwCl (cW cB cI cJ cZ cS cO b cs1) H → va_D A (cW cB cI cJ cZ cS cO b cs1) → va_S A s.heap Gh [] → Gh.size = b + kK cs1 → va_S A Gh H locs → lv_has ls 1 [(0, .ref (b + u0))] → W p l e (headSpec (wsOf yX11_init cX11_init 1 none) ({ frames := 8, cells := kK cs9 - kK cs, slots := kM cs9 - kM cs, locals := 60 * (8) } : Room)).room s m ([.ref (b + x0)] : List Value).toArray below meth c H locs (kK cs1 - kK cs) (kM cs1 - kM cs) (MQ below (va_Qv (fun (_ : Unit) => True) (fun _ t_ => va_P (dC, dI) vwCl (cW cB cI cJ cZ cS cO b cs9) t_.heap ∧ va_D A (cW cB cI cJ cZ cS cO b cs9) ∧ b + kK cs9 ≤ t_.heap.size) A) ([.ref (b + x0)] : List Value).toArray s (kK cs9 - kK cs) (kM cs9 - kM cs) A) (F0 m 61 ls [.ref (b + y0), .ref (b + y1)]) := by
    intro cs1 u0 y0 y1 h hmk hmm Gh H locs ls hP hD hG hgz hS hl
    obtain ⟨kb9, mb9⟩ := mo_c_X11_init_b61 F cs1 u0 y0 y1 cs9 h
    unfold c_X11_init_b61 at h
    refine lv_dup hx hb dX11_init_61 rfl ?_
    replace h := ob h; obtain ⟨cs_10, hv_10, h⟩ := h
    obtain ⟨qk_10, qm_10⟩ := mo_c_X8_init F cs1 y0 cs_10 hv_10
    obtain ⟨k9_10, m9_10⟩ := mo_c_X11_init_b65 F cs_10 u0 y0 y1 cs9 h
    refine caiV (As := []) hx hb hml hts hown hK hP hD hS hG hA (by omega) (by omega) hZ (sa_X8_init l dC dI cB cI cJ cZ cS cO b K V fz F cs1 y0 cs_10 hv_10) (cw_X11_X8_init hts (fr := 1) (Nat.le_of_ble_eq_true rfl) (Nat.le_of_ble_eq_true rfl)) rfl hl.1 (Nat.le_of_ble_eq_true rfl) ⟨by show kK cs1 - kK cs + (kK cs_10 - kK cs1) ≤ kK cs9 - kK cs; omega, by show kM cs1 - kM cs + (kM cs_10 - kM cs1) ≤ kM cs9 - kM cs; omega⟩ dX11_init_62 (fun H locs hP hD hG hgz hS => ?_)
    refine W_cnt (c2 := kK cs_10 - kK cs) (n2 := kM cs_10 - kM cs) (by omega) (by omega) ?_
    exact B_65 cs_10 u0 y0 y1 h (by omega) (by omega) _ _ _ _ hP hD hG (by omega) hS (lv_sub hl [0] rfl)
  have B_54 : ∀ (cs1 : CS) (u0 : Nat) (y0 : Nat) (y1 : Nat), c_X11_init_b54 F cs1 u0 y0 y1 = some cs9 → kK cs ≤ kK cs1 → kM cs ≤ kM cs1 → ∀ (Gh H : Heap) (locs : List Loc) (ls : Array Slot), va_P (dC, dI) vwCl (cW cB cI cJ cZ cS cO b cs1) H → va_D A (cW cB cI cJ cZ cS cO b cs1) → va_S A s.heap Gh [] → Gh.size = b + kK cs1 → va_S A Gh H locs → lv_has ls 1 [(0, .ref (b + u0))] → W p l e (headSpec (wsOf yX11_init cX11_init 1 none) ({ frames := 8, cells := kK cs9 - kK cs, slots := kM cs9 - kM cs, locals := 60 * (8) } : Room)).room s m ([.ref (b + x0)] : List Value).toArray below meth c H locs (kK cs1 - kK cs) (kM cs1 - kM cs) (MQ below (va_Qv (fun (_ : Unit) => True) (fun _ t_ => va_P (dC, dI) vwCl (cW cB cI cJ cZ cS cO b cs9) t_.heap ∧ va_D A (cW cB cI cJ cZ cS cO b cs9) ∧ b + kK cs9 ≤ t_.heap.size) A) ([.ref (b + x0)] : List Value).toArray s (kK cs9 - kK cs) (kM cs9 - kM cs) A) (F0 m 54 ls [.ref (b + y0), .ref (b + y1)]) := by
    intro cs1 u0 y0 y1 h hmk hmm Gh H locs ls hP hD hG hgz hS hl
    obtain ⟨kb9, mb9⟩ := mo_c_X11_init_b54 F cs1 u0 y0 y1 cs9 h
    unfold c_X11_init_b54 at h
    replace h := ob h; obtain ⟨cs_11, hv_11, h⟩ := h
    obtain ⟨qk_11, qm_11⟩ := pR_k hv_11
    refine fp_X11_34 (v := (some y0)) hx hb hts hown hK hP hD hS hin hv_11 dX11_init_54 (fun H locs hP hD hS => ?_)
    refine lv_aload_n hx hb dX11_init_57 rfl (lv_at hl 0 rfl) ?_
    replace h := ob h; obtain ⟨cs_12, hv_12, h⟩ := h
    obtain ⟨qk_12, qm_12⟩ := nwO_k hv_12
    obtain ⟨k9_12, m9_12⟩ := mo_c_X11_init_b61 F cs_12 u0 (kK cs_11) u0 cs9 h
    refine new_X11_27 hx hb hts hown hK hP hD hS hG hA (by omega) (by omega) ⟨by show kK cs1 - kK cs + 1 ≤ kK cs9 - kK cs; omega, by show kM cs1 - kM cs + 4 ≤ kM cs9 - kM cs; omega⟩ hv_12 dX11_init_58 (fun H locs hP hD hG hgz hS => ?_)
    refine W_cnt (c2 := kK cs_12 - kK cs) (n2 := kM cs_12 - kM cs) (by omega) (by omega) ?_
    exact B_61 cs_12 u0 (kK cs_11) u0 h (by omega) (by omega) _ _ _ _ hP hD hG (by omega) hS (lv_sub hl [0] rfl)
  have B_50 : ∀ (cs1 : CS) (u0 : Nat) (y0 : Nat) (y1 : Nat), c_X11_init_b50 F cs1 u0 y0 y1 = some cs9 → kK cs ≤ kK cs1 → kM cs ≤ kM cs1 → ∀ (Gh H : Heap) (locs : List Loc) (ls : Array Slot), va_P (dC, dI) vwCl (cW cB cI cJ cZ cS cO b cs1) H → va_D A (cW cB cI cJ cZ cS cO b cs1) → va_S A s.heap Gh [] → Gh.size = b + kK cs1 → va_S A Gh H locs → lv_has ls 1 [(0, .ref (b + u0))] → W p l e (headSpec (wsOf yX11_init cX11_init 1 none) ({ frames := 8, cells := kK cs9 - kK cs, slots := kM cs9 - kM cs, locals := 60 * (8) } : Room)).room s m ([.ref (b + x0)] : List Value).toArray below meth c H locs (kK cs1 - kK cs) (kM cs1 - kM cs) (MQ below (va_Qv (fun (_ : Unit) => True) (fun _ t_ => va_P (dC, dI) vwCl (cW cB cI cJ cZ cS cO b cs9) t_.heap ∧ va_D A (cW cB cI cJ cZ cS cO b cs9) ∧ b + kK cs9 ≤ t_.heap.size) A) ([.ref (b + x0)] : List Value).toArray s (kK cs9 - kK cs) (kM cs9 - kM cs) A) (F0 m 50 ls [.ref (b + y0), .ref (b + y1)]) := by
    intro cs1 u0 y0 y1 h hmk hmm Gh H locs ls hP hD hG hgz hS hl
    obtain ⟨kb9, mb9⟩ := mo_c_X11_init_b50 F cs1 u0 y0 y1 cs9 h
    unfold c_X11_init_b50 at h
    refine lv_dup hx hb dX11_init_50 rfl ?_
    replace h := ob h; obtain ⟨cs_13, hv_13, h⟩ := h
    obtain ⟨qk_13, qm_13⟩ := mo_c_X8_init F cs1 y0 cs_13 hv_13
    obtain ⟨k9_13, m9_13⟩ := mo_c_X11_init_b54 F cs_13 u0 y0 y1 cs9 h
    refine caiV (As := []) hx hb hml hts hown hK hP hD hS hG hA (by omega) (by omega) hZ (sa_X8_init l dC dI cB cI cJ cZ cS cO b K V fz F cs1 y0 cs_13 hv_13) (cw_X11_X8_init hts (fr := 1) (Nat.le_of_ble_eq_true rfl) (Nat.le_of_ble_eq_true rfl)) rfl hl.1 (Nat.le_of_ble_eq_true rfl) ⟨by show kK cs1 - kK cs + (kK cs_13 - kK cs1) ≤ kK cs9 - kK cs; omega, by show kM cs1 - kM cs + (kM cs_13 - kM cs1) ≤ kM cs9 - kM cs; omega⟩ dX11_init_51 (fun H locs hP hD hG hgz hS => ?_)
    refine W_cnt (c2 := kK cs_13 - kK cs) (n2 := kM cs_13 - kM cs) (by omega) (by omega) ?_
    exact B_54 cs_13 u0 y0 y1 h (by omega) (by omega) _ _ _ _ hP hD hG (by omega) hS (lv_sub hl [0] rfl)
  have B_43 : ∀ (cs1 : CS) (u0 : Nat) (y0 : Nat) (y1 : Nat), c_X11_init_b43 F cs1 u0 y0 y1 = some cs9 → kK cs ≤ kK cs1 → kM cs ≤ kM cs1 → ∀ (Gh H : Heap) (locs : List Loc) (ls : Array Slot), va_P (dC, dI) vwCl (cW cB cI cJ cZ cS cO b cs1) H → va_D A (cW cB cI cJ cZ cS cO b cs1) → va_S A s.heap Gh [] → Gh.size = b + kK cs1 → va_S A Gh H locs → lv_has ls 1 [(0, .ref (b + u0))] → W p l e (headSpec (wsOf yX11_init cX11_init 1 none) ({ frames := 8, cells := kK cs9 - kK cs, slots := kM cs9 - kM cs, locals := 60 * (8) } : Room)).room s m ([.ref (b + x0)] : List Value).toArray below meth c H locs (kK cs1 - kK cs) (kM cs1 - kM cs) (MQ below (va_Qv (fun (_ : Unit) => True) (fun _ t_ => va_P (dC, dI) vwCl (cW cB cI cJ cZ cS cO b cs9) t_.heap ∧ va_D A (cW cB cI cJ cZ cS cO b cs9) ∧ b + kK cs9 ≤ t_.heap.size) A) ([.ref (b + x0)] : List Value).toArray s (kK cs9 - kK cs) (kM cs9 - kM cs) A) (F0 m 43 ls [.ref (b + y0), .ref (b + y1)]) := by
    intro cs1 u0 y0 y1 h hmk hmm Gh H locs ls hP hD hG hgz hS hl
    obtain ⟨kb9, mb9⟩ := mo_c_X11_init_b43 F cs1 u0 y0 y1 cs9 h
    unfold c_X11_init_b43 at h
    replace h := ob h; obtain ⟨cs_14, hv_14, h⟩ := h
    obtain ⟨qk_14, qm_14⟩ := pR_k hv_14
    refine fp_X11_30 (v := (some y0)) hx hb hts hown hK hP hD hS hin hv_14 dX11_init_43 (fun H locs hP hD hS => ?_)
    refine lv_aload_n hx hb dX11_init_46 rfl (lv_at hl 0 rfl) ?_
    replace h := ob h; obtain ⟨cs_15, hv_15, h⟩ := h
    obtain ⟨qk_15, qm_15⟩ := nwO_k hv_15
    obtain ⟨k9_15, m9_15⟩ := mo_c_X11_init_b50 F cs_15 u0 (kK cs_14) u0 cs9 h
    refine new_X11_27 hx hb hts hown hK hP hD hS hG hA (by omega) (by omega) ⟨by show kK cs1 - kK cs + 1 ≤ kK cs9 - kK cs; omega, by show kM cs1 - kM cs + 4 ≤ kM cs9 - kM cs; omega⟩ hv_15 dX11_init_47 (fun H locs hP hD hG hgz hS => ?_)
    refine W_cnt (c2 := kK cs_15 - kK cs) (n2 := kM cs_15 - kM cs) (by omega) (by omega) ?_
    exact B_50 cs_15 u0 (kK cs_14) u0 h (by omega) (by omega) _ _ _ _ hP hD hG (by omega) hS (lv_sub hl [0] rfl)
  have B_39 : ∀ (cs1 : CS) (u0 : Nat) (y0 : Nat) (y1 : Nat), c_X11_init_b39 F cs1 u0 y0 y1 = some cs9 → kK cs ≤ kK cs1 → kM cs ≤ kM cs1 → ∀ (Gh H : Heap) (locs : List Loc) (ls : Array Slot), va_P (dC, dI) vwCl (cW cB cI cJ cZ cS cO b cs1) H → va_D A (cW cB cI cJ cZ cS cO b cs1) → va_S A s.heap Gh [] → Gh.size = b + kK cs1 → va_S A Gh H locs → lv_has ls 1 [(0, .ref (b + u0))] → W p l e (headSpec (wsOf yX11_init cX11_init 1 none) ({ frames := 8, cells := kK cs9 - kK cs, slots := kM cs9 - kM cs, locals := 60 * (8) } : Room)).room s m ([.ref (b + x0)] : List Value).toArray below meth c H locs (kK cs1 - kK cs) (kM cs1 - kM cs) (MQ below (va_Qv (fun (_ : Unit) => True) (fun _ t_ => va_P (dC, dI) vwCl (cW cB cI cJ cZ cS cO b cs9) t_.heap ∧ va_D A (cW cB cI cJ cZ cS cO b cs9) ∧ b + kK cs9 ≤ t_.heap.size) A) ([.ref (b + x0)] : List Value).toArray s (kK cs9 - kK cs) (kM cs9 - kM cs) A) (F0 m 39 ls [.ref (b + y0), .ref (b + y1)]) := by
    intro cs1 u0 y0 y1 h hmk hmm Gh H locs ls hP hD hG hgz hS hl
    obtain ⟨kb9, mb9⟩ := mo_c_X11_init_b39 F cs1 u0 y0 y1 cs9 h
    unfold c_X11_init_b39 at h
    refine lv_dup hx hb dX11_init_39 rfl ?_
    replace h := ob h; obtain ⟨cs_16, hv_16, h⟩ := h
    obtain ⟨qk_16, qm_16⟩ := mo_c_X8_init F cs1 y0 cs_16 hv_16
    obtain ⟨k9_16, m9_16⟩ := mo_c_X11_init_b43 F cs_16 u0 y0 y1 cs9 h
    refine caiV (As := []) hx hb hml hts hown hK hP hD hS hG hA (by omega) (by omega) hZ (sa_X8_init l dC dI cB cI cJ cZ cS cO b K V fz F cs1 y0 cs_16 hv_16) (cw_X11_X8_init hts (fr := 1) (Nat.le_of_ble_eq_true rfl) (Nat.le_of_ble_eq_true rfl)) rfl hl.1 (Nat.le_of_ble_eq_true rfl) ⟨by show kK cs1 - kK cs + (kK cs_16 - kK cs1) ≤ kK cs9 - kK cs; omega, by show kM cs1 - kM cs + (kM cs_16 - kM cs1) ≤ kM cs9 - kM cs; omega⟩ dX11_init_40 (fun H locs hP hD hG hgz hS => ?_)
    refine W_cnt (c2 := kK cs_16 - kK cs) (n2 := kM cs_16 - kM cs) (by omega) (by omega) ?_
    exact B_43 cs_16 u0 y0 y1 h (by omega) (by omega) _ _ _ _ hP hD hG (by omega) hS (lv_sub hl [0] rfl)
  have B_32 : ∀ (cs1 : CS) (u0 : Nat) (y0 : Nat) (y1 : Nat), c_X11_init_b32 F cs1 u0 y0 y1 = some cs9 → kK cs ≤ kK cs1 → kM cs ≤ kM cs1 → ∀ (Gh H : Heap) (locs : List Loc) (ls : Array Slot), va_P (dC, dI) vwCl (cW cB cI cJ cZ cS cO b cs1) H → va_D A (cW cB cI cJ cZ cS cO b cs1) → va_S A s.heap Gh [] → Gh.size = b + kK cs1 → va_S A Gh H locs → lv_has ls 1 [(0, .ref (b + u0))] → W p l e (headSpec (wsOf yX11_init cX11_init 1 none) ({ frames := 8, cells := kK cs9 - kK cs, slots := kM cs9 - kM cs, locals := 60 * (8) } : Room)).room s m ([.ref (b + x0)] : List Value).toArray below meth c H locs (kK cs1 - kK cs) (kM cs1 - kM cs) (MQ below (va_Qv (fun (_ : Unit) => True) (fun _ t_ => va_P (dC, dI) vwCl (cW cB cI cJ cZ cS cO b cs9) t_.heap ∧ va_D A (cW cB cI cJ cZ cS cO b cs9) ∧ b + kK cs9 ≤ t_.heap.size) A) ([.ref (b + x0)] : List Value).toArray s (kK cs9 - kK cs) (kM cs9 - kM cs) A) (F0 m 32 ls [.ref (b + y0), .ref (b + y1)]) := by
    intro cs1 u0 y0 y1 h hmk hmm Gh H locs ls hP hD hG hgz hS hl
    obtain ⟨kb9, mb9⟩ := mo_c_X11_init_b32 F cs1 u0 y0 y1 cs9 h
    unfold c_X11_init_b32 at h
    replace h := ob h; obtain ⟨cs_17, hv_17, h⟩ := h
    obtain ⟨qk_17, qm_17⟩ := pR_k hv_17
    refine fp_X11_23 (v := (some y0)) hx hb hts hown hK hP hD hS hin hv_17 dX11_init_32 (fun H locs hP hD hS => ?_)
    refine lv_aload_n hx hb dX11_init_35 rfl (lv_at hl 0 rfl) ?_
    replace h := ob h; obtain ⟨cs_18, hv_18, h⟩ := h
    obtain ⟨qk_18, qm_18⟩ := nwO_k hv_18
    obtain ⟨k9_18, m9_18⟩ := mo_c_X11_init_b39 F cs_18 u0 (kK cs_17) u0 cs9 h
    refine new_X11_27 hx hb hts hown hK hP hD hS hG hA (by omega) (by omega) ⟨by show kK cs1 - kK cs + 1 ≤ kK cs9 - kK cs; omega, by show kM cs1 - kM cs + 4 ≤ kM cs9 - kM cs; omega⟩ hv_18 dX11_init_36 (fun H locs hP hD hG hgz hS => ?_)
    refine W_cnt (c2 := kK cs_18 - kK cs) (n2 := kM cs_18 - kM cs) (by omega) (by omega) ?_
    exact B_39 cs_18 u0 (kK cs_17) u0 h (by omega) (by omega) _ _ _ _ hP hD hG (by omega) hS (lv_sub hl [0] rfl)
  have B_28 : ∀ (cs1 : CS) (u0 : Nat) (y0 : Nat) (y1 : Nat), c_X11_init_b28 F cs1 u0 y0 y1 = some cs9 → kK cs ≤ kK cs1 → kM cs ≤ kM cs1 → ∀ (Gh H : Heap) (locs : List Loc) (ls : Array Slot), va_P (dC, dI) vwCl (cW cB cI cJ cZ cS cO b cs1) H → va_D A (cW cB cI cJ cZ cS cO b cs1) → va_S A s.heap Gh [] → Gh.size = b + kK cs1 → va_S A Gh H locs → lv_has ls 1 [(0, .ref (b + u0))] → W p l e (headSpec (wsOf yX11_init cX11_init 1 none) ({ frames := 8, cells := kK cs9 - kK cs, slots := kM cs9 - kM cs, locals := 60 * (8) } : Room)).room s m ([.ref (b + x0)] : List Value).toArray below meth c H locs (kK cs1 - kK cs) (kM cs1 - kM cs) (MQ below (va_Qv (fun (_ : Unit) => True) (fun _ t_ => va_P (dC, dI) vwCl (cW cB cI cJ cZ cS cO b cs9) t_.heap ∧ va_D A (cW cB cI cJ cZ cS cO b cs9) ∧ b + kK cs9 ≤ t_.heap.size) A) ([.ref (b + x0)] : List Value).toArray s (kK cs9 - kK cs) (kM cs9 - kM cs) A) (F0 m 28 ls [.ref (b + y0), .ref (b + y1)]) := by
    intro cs1 u0 y0 y1 h hmk hmm Gh H locs ls hP hD hG hgz hS hl
    obtain ⟨kb9, mb9⟩ := mo_c_X11_init_b28 F cs1 u0 y0 y1 cs9 h
    unfold c_X11_init_b28 at h
    refine lv_dup hx hb dX11_init_28 rfl ?_
    replace h := ob h; obtain ⟨cs_19, hv_19, h⟩ := h
    obtain ⟨qk_19, qm_19⟩ := mo_c_X10_init F cs1 y0 cs_19 hv_19
    obtain ⟨k9_19, m9_19⟩ := mo_c_X11_init_b32 F cs_19 u0 y0 y1 cs9 h
    refine caiV (As := []) hx hb hml hts hown hK hP hD hS hG hA (by omega) (by omega) hZ (sa_X10_init l dC dI cB cI cJ cZ cS cO b K V fz F cs1 y0 cs_19 hv_19) (cw_X11_X10_init hts (fr := 7) (Nat.le_of_ble_eq_true rfl) (Nat.le_of_ble_eq_true rfl)) rfl hl.1 (Nat.le_of_ble_eq_true rfl) ⟨by show kK cs1 - kK cs + (kK cs_19 - kK cs1) ≤ kK cs9 - kK cs; omega, by show kM cs1 - kM cs + (kM cs_19 - kM cs1) ≤ kM cs9 - kM cs; omega⟩ dX11_init_29 (fun H locs hP hD hG hgz hS => ?_)
    refine W_cnt (c2 := kK cs_19 - kK cs) (n2 := kM cs_19 - kM cs) (by omega) (by omega) ?_
    exact B_32 cs_19 u0 y0 y1 h (by omega) (by omega) _ _ _ _ hP hD hG (by omega) hS (lv_sub hl [0] rfl)
  have B_21 : ∀ (cs1 : CS) (u0 : Nat) (y0 : Nat) (y1 : Nat), c_X11_init_b21 F cs1 u0 y0 y1 = some cs9 → kK cs ≤ kK cs1 → kM cs ≤ kM cs1 → ∀ (Gh H : Heap) (locs : List Loc) (ls : Array Slot), va_P (dC, dI) vwCl (cW cB cI cJ cZ cS cO b cs1) H → va_D A (cW cB cI cJ cZ cS cO b cs1) → va_S A s.heap Gh [] → Gh.size = b + kK cs1 → va_S A Gh H locs → lv_has ls 1 [(0, .ref (b + u0))] → W p l e (headSpec (wsOf yX11_init cX11_init 1 none) ({ frames := 8, cells := kK cs9 - kK cs, slots := kM cs9 - kM cs, locals := 60 * (8) } : Room)).room s m ([.ref (b + x0)] : List Value).toArray below meth c H locs (kK cs1 - kK cs) (kM cs1 - kM cs) (MQ below (va_Qv (fun (_ : Unit) => True) (fun _ t_ => va_P (dC, dI) vwCl (cW cB cI cJ cZ cS cO b cs9) t_.heap ∧ va_D A (cW cB cI cJ cZ cS cO b cs9) ∧ b + kK cs9 ≤ t_.heap.size) A) ([.ref (b + x0)] : List Value).toArray s (kK cs9 - kK cs) (kM cs9 - kM cs) A) (F0 m 21 ls [.ref (b + y0), .ref (b + y1)]) := by
    intro cs1 u0 y0 y1 h hmk hmm Gh H locs ls hP hD hG hgz hS hl
    obtain ⟨kb9, mb9⟩ := mo_c_X11_init_b21 F cs1 u0 y0 y1 cs9 h
    unfold c_X11_init_b21 at h
    replace h := ob h; obtain ⟨cs_20, hv_20, h⟩ := h
    obtain ⟨qk_20, qm_20⟩ := pR_k hv_20
    refine fp_X11_16 (v := (some y0)) hx hb hts hown hK hP hD hS hin hv_20 dX11_init_21 (fun H locs hP hD hS => ?_)
    refine lv_aload_n hx hb dX11_init_24 rfl (lv_at hl 0 rfl) ?_
    replace h := ob h; obtain ⟨cs_21, hv_21, h⟩ := h
    obtain ⟨qk_21, qm_21⟩ := nwO_k hv_21
    obtain ⟨k9_21, m9_21⟩ := mo_c_X11_init_b28 F cs_21 u0 (kK cs_20) u0 cs9 h
    refine new_X11_20 hx hb hts hown hK hP hD hS hG hA (by omega) (by omega) ⟨by show kK cs1 - kK cs + 1 ≤ kK cs9 - kK cs; omega, by show kM cs1 - kM cs + 7 ≤ kM cs9 - kM cs; omega⟩ hv_21 dX11_init_25 (fun H locs hP hD hG hgz hS => ?_)
    refine W_cnt (c2 := kK cs_21 - kK cs) (n2 := kM cs_21 - kM cs) (by omega) (by omega) ?_
    exact B_28 cs_21 u0 (kK cs_20) u0 h (by omega) (by omega) _ _ _ _ hP hD hG (by omega) hS (lv_sub hl [0] rfl)
  have B_17 : ∀ (cs1 : CS) (u0 : Nat) (y0 : Nat) (y1 : Nat), c_X11_init_b17 F cs1 u0 y0 y1 = some cs9 → kK cs ≤ kK cs1 → kM cs ≤ kM cs1 → ∀ (Gh H : Heap) (locs : List Loc) (ls : Array Slot), va_P (dC, dI) vwCl (cW cB cI cJ cZ cS cO b cs1) H → va_D A (cW cB cI cJ cZ cS cO b cs1) → va_S A s.heap Gh [] → Gh.size = b + kK cs1 → va_S A Gh H locs → lv_has ls 1 [(0, .ref (b + u0))] → W p l e (headSpec (wsOf yX11_init cX11_init 1 none) ({ frames := 8, cells := kK cs9 - kK cs, slots := kM cs9 - kM cs, locals := 60 * (8) } : Room)).room s m ([.ref (b + x0)] : List Value).toArray below meth c H locs (kK cs1 - kK cs) (kM cs1 - kM cs) (MQ below (va_Qv (fun (_ : Unit) => True) (fun _ t_ => va_P (dC, dI) vwCl (cW cB cI cJ cZ cS cO b cs9) t_.heap ∧ va_D A (cW cB cI cJ cZ cS cO b cs9) ∧ b + kK cs9 ≤ t_.heap.size) A) ([.ref (b + x0)] : List Value).toArray s (kK cs9 - kK cs) (kM cs9 - kM cs) A) (F0 m 17 ls [.ref (b + y0), .ref (b + y1)]) := by
    intro cs1 u0 y0 y1 h hmk hmm Gh H locs ls hP hD hG hgz hS hl
    obtain ⟨kb9, mb9⟩ := mo_c_X11_init_b17 F cs1 u0 y0 y1 cs9 h
    unfold c_X11_init_b17 at h
    refine lv_dup hx hb dX11_init_17 rfl ?_
    replace h := ob h; obtain ⟨cs_22, hv_22, h⟩ := h
    obtain ⟨qk_22, qm_22⟩ := mo_c_X7_init F cs1 y0 cs_22 hv_22
    obtain ⟨k9_22, m9_22⟩ := mo_c_X11_init_b21 F cs_22 u0 y0 y1 cs9 h
    refine caiV (As := []) hx hb hml hts hown hK hP hD hS hG hA (by omega) (by omega) hZ (sa_X7_init l dC dI cB cI cJ cZ cS cO b K V fz F cs1 y0 cs_22 hv_22) (cw_X11_X7_init hts (fr := 1) (Nat.le_of_ble_eq_true rfl) (Nat.le_of_ble_eq_true rfl)) rfl hl.1 (Nat.le_of_ble_eq_true rfl) ⟨by show kK cs1 - kK cs + (kK cs_22 - kK cs1) ≤ kK cs9 - kK cs; omega, by show kM cs1 - kM cs + (kM cs_22 - kM cs1) ≤ kM cs9 - kM cs; omega⟩ dX11_init_18 (fun H locs hP hD hG hgz hS => ?_)
    refine W_cnt (c2 := kK cs_22 - kK cs) (n2 := kM cs_22 - kM cs) (by omega) (by omega) ?_
    exact B_21 cs_22 u0 y0 y1 h (by omega) (by omega) _ _ _ _ hP hD hG (by omega) hS (lv_sub hl [0] rfl)
  have B_13 : ∀ (cs1 : CS) (u0 : Nat), c_X11_init_b13 F cs1 u0 = some cs9 → kK cs ≤ kK cs1 → kM cs ≤ kM cs1 → ∀ (Gh H : Heap) (locs : List Loc) (ls : Array Slot), va_P (dC, dI) vwCl (cW cB cI cJ cZ cS cO b cs1) H → va_D A (cW cB cI cJ cZ cS cO b cs1) → va_S A s.heap Gh [] → Gh.size = b + kK cs1 → va_S A Gh H locs → lv_has ls 1 [(0, .ref (b + u0))] → W p l e (headSpec (wsOf yX11_init cX11_init 1 none) ({ frames := 8, cells := kK cs9 - kK cs, slots := kM cs9 - kM cs, locals := 60 * (8) } : Room)).room s m ([.ref (b + x0)] : List Value).toArray below meth c H locs (kK cs1 - kK cs) (kM cs1 - kM cs) (MQ below (va_Qv (fun (_ : Unit) => True) (fun _ t_ => va_P (dC, dI) vwCl (cW cB cI cJ cZ cS cO b cs9) t_.heap ∧ va_D A (cW cB cI cJ cZ cS cO b cs9) ∧ b + kK cs9 ≤ t_.heap.size) A) ([.ref (b + x0)] : List Value).toArray s (kK cs9 - kK cs) (kM cs9 - kM cs) A) (F0 m 13 ls []) := by
    intro cs1 u0 h hmk hmm Gh H locs ls hP hD hG hgz hS hl
    obtain ⟨kb9, mb9⟩ := mo_c_X11_init_b13 F cs1 u0 cs9 h
    unfold c_X11_init_b13 at h
    refine lv_aload_n hx hb dX11_init_13 rfl (lv_at hl 0 rfl) ?_
    replace h := ob h; obtain ⟨cs_23, hv_23, h⟩ := h
    obtain ⟨qk_23, qm_23⟩ := nwO_k hv_23
    obtain ⟨k9_23, m9_23⟩ := mo_c_X11_init_b17 F cs_23 u0 (kK cs1) u0 cs9 h
    refine new_X11_13 hx hb hts hown hK hP hD hS hG hA (by omega) (by omega) ⟨by show kK cs1 - kK cs + 1 ≤ kK cs9 - kK cs; omega, by show kM cs1 - kM cs + 9 ≤ kM cs9 - kM cs; omega⟩ hv_23 dX11_init_14 (fun H locs hP hD hG hgz hS => ?_)
    refine W_cnt (c2 := kK cs_23 - kK cs) (n2 := kM cs_23 - kM cs) (by omega) (by omega) ?_
    exact B_17 cs_23 u0 (kK cs1) u0 h (by omega) (by omega) _ _ _ _ hP hD hG (by omega) hS (lv_sub hl [0] rfl)
  have h := hf
  unfold c_X11_init at h
  refine W_cnt (c2 := kK cs - kK cs) (n2 := kM cs - kM cs) (by omega) (by omega) ?_
  refine lv_aload_n hx hb dX11_init_0 rfl (lv_at hl 0 rfl) ?_
  refine W.objInit hx hb hown (hts _ (List.mem_cons_of_mem _ kw_213)) (hts _ (List.mem_cons_of_mem _ kw_214)) (hts _ (List.mem_cons_of_mem _ kc_objectInit)) rfl (by rw [hml]; exact hl.1) rfl dX11_init_1 (Nat.le_of_ble_eq_true rfl) (Nat.le_of_ble_eq_true rfl) ?_
  refine W.eq (g2 := F0 m 4 ls []) rfl ?_
  refine lv_aload_n hx hb dX11_init_4 rfl (lv_at hl 0 rfl) ?_
  refine lv_sipush (v := 2000) hx hb dX11_init_5 (by decide) ?_
  replace h := ob h; obtain ⟨cs_24, hv_24, h⟩ := h
  obtain ⟨qk_24, qm_24⟩ := nwA_k hv_24
  obtain ⟨k9_24, m9_24⟩ := mo_c_X11_init_b13 F cs_24 x0 cs9 h
  refine nar_X11_9 hx hb hts hown hK hP hD hS hG hA (by omega) (by omega) hin ⟨by show kK cs - kK cs + 1 ≤ kK cs9 - kK cs; omega, by show kM cs - kM cs + (2000 : Int32).toNatClampNeg ≤ kM cs9 - kM cs; omega⟩ hv_24 dX11_init_8 dX11_init_10 (fun H locs hP hD hG hgz hS => ?_)
  refine W_cnt (c2 := kK cs_24 - kK cs) (n2 := kM cs_24 - kM cs) (by omega) (by omega) ?_
  exact B_13 cs_24 x0 h (by omega) (by omega) _ _ _ _ hP hD hG (by omega) hS (lv_sub hl [0] rfl)
theorem dX11_query_0 : decode cX11_query 0 = .ok (.aload_n 0, 1) := by decide +kernel
theorem dX11_query_1 : decode cX11_query 1 = .ok (.getfield 23, 3) := by decide +kernel
theorem dX11_query_4 : decode cX11_query 4 = .ok (.aload_n 0, 1) := by decide +kernel
theorem dX11_query_5 : decode cX11_query 5 = .ok (.getfield 9, 3) := by decide +kernel
theorem dX11_query_8 : decode cX11_query 8 = .ok (.aload_n 0, 1) := by decide +kernel
theorem dX11_query_9 : decode cX11_query 9 = .ok (.getfield 59, 3) := by decide +kernel
theorem dX11_query_12 : decode cX11_query 12 = .ok (.invokevirtual 70, 3) := by decide +kernel
theorem dX11_query_15 : decode cX11_query 15 = .ok (.new 74, 3) := by decide +kernel
theorem dX11_query_18 : decode cX11_query 18 = .ok (.dup, 1) := by decide +kernel
theorem dX11_query_19 : decode cX11_query 19 = .ok (.aload_n 0, 1) := by decide +kernel
theorem dX11_query_20 : decode cX11_query 20 = .ok (.getfield 23, 3) := by decide +kernel
theorem dX11_query_23 : decode cX11_query 23 = .ok (.aload_n 0, 1) := by decide +kernel
theorem dX11_query_24 : decode cX11_query 24 = .ok (.getfield 59, 3) := by decide +kernel
theorem dX11_query_27 : decode cX11_query 27 = .ok (.invokespecial 76, 3) := by decide +kernel
theorem dX11_query_30 : decode cX11_query 30 = .ok (.astore_n 1, 1) := by decide +kernel
theorem dX11_query_31 : decode cX11_query 31 = .ok (.aload_n 1, 1) := by decide +kernel
theorem dX11_query_32 : decode cX11_query 32 = .ok (.invokevirtual 79, 3) := by decide +kernel
theorem dX11_query_35 : decode cX11_query 35 = .ok (.aload_n 1, 1) := by decide +kernel
theorem dX11_query_36 : decode cX11_query 36 = .ok (.getfield 82, 3) := by decide +kernel
theorem dX11_query_39 : decode cX11_query 39 = .ok (.ifCond .ne 24, 3) := by decide +kernel
theorem dX11_query_42 : decode cX11_query 42 = .ok (.new 85, 3) := by decide +kernel
theorem dX11_query_45 : decode cX11_query 45 = .ok (.dup, 1) := by decide +kernel
theorem dX11_query_46 : decode cX11_query 46 = .ok (.aload_n 1, 1) := by decide +kernel
theorem dX11_query_47 : decode cX11_query 47 = .ok (.aload_n 0, 1) := by decide +kernel
theorem dX11_query_48 : decode cX11_query 48 = .ok (.getfield 16, 3) := by decide +kernel
theorem dX11_query_51 : decode cX11_query 51 = .ok (.invokespecial 87, 3) := by decide +kernel
theorem dX11_query_54 : decode cX11_query 54 = .ok (.astore_n 2, 1) := by decide +kernel
theorem dX11_query_55 : decode cX11_query 55 = .ok (.aload_n 2, 1) := by decide +kernel
theorem dX11_query_56 : decode cX11_query 56 = .ok (.aload_n 1, 1) := by decide +kernel
theorem dX11_query_57 : decode cX11_query 57 = .ok (.getfield 90, 3) := by decide +kernel
theorem dX11_query_60 : decode cX11_query 60 = .ok (.invokevirtual 94, 3) := by decide +kernel
theorem dX11_query_63 : decode cX11_query 63 = .ok (.aload_n 0, 1) := by decide +kernel
theorem dX11_query_64 : decode cX11_query 64 = .ok (.iconst 0, 1) := by decide +kernel
theorem dX11_query_65 : decode cX11_query 65 = .ok (.putfield 59, 3) := by decide +kernel
theorem dX11_query_68 : decode cX11_query 68 = .ok (.aload_n 0, 1) := by decide +kernel
theorem dX11_query_69 : decode cX11_query 69 = .ok (.iconst 0, 1) := by decide +kernel
theorem dX11_query_70 : decode cX11_query 70 = .ok (.putfield 98, 3) := by decide +kernel
theorem dX11_query_73 : decode cX11_query 73 = .ok (.aload_n 0, 1) := by decide +kernel
theorem dX11_query_74 : decode cX11_query 74 = .ok (.aload_n 1, 1) := by decide +kernel
theorem dX11_query_75 : decode cX11_query 75 = .ok (.getfield 82, 3) := by decide +kernel
theorem dX11_query_78 : decode cX11_query 78 = .ok (.putfield 101, 3) := by decide +kernel
theorem dX11_query_81 : decode cX11_query 81 = .ok (.aload_n 1, 1) := by decide +kernel
theorem dX11_query_82 : decode cX11_query 82 = .ok (.getfield 82, 3) := by decide +kernel
theorem dX11_query_85 : decode cX11_query 85 = .ok (.ifCond .eq 11, 3) := by decide +kernel
theorem dX11_query_88 : decode cX11_query 88 = .ok (.bipush (-10), 2) := by decide +kernel
theorem dX11_query_90 : decode cX11_query 90 = .ok (.aload_n 1, 1) := by decide +kernel
theorem dX11_query_91 : decode cX11_query 91 = .ok (.getfield 104, 3) := by decide +kernel
theorem dX11_query_94 : decode cX11_query 94 = .ok (.isub, 1) := by decide +kernel
theorem dX11_query_95 : decode cX11_query 95 = .ok (.ireturn, 1) := by decide +kernel
theorem dX11_query_96 : decode cX11_query 96 = .ok (.aload_n 0, 1) := by decide +kernel
theorem dX11_query_97 : decode cX11_query 97 = .ok (.aload_n 1, 1) := by decide +kernel
theorem dX11_query_98 : decode cX11_query 98 = .ok (.putfield 107, 3) := by decide +kernel
theorem dX11_query_101 : decode cX11_query 101 = .ok (.aload_n 0, 1) := by decide +kernel
theorem dX11_query_102 : decode cX11_query 102 = .ok (.new 111, 3) := by decide +kernel
theorem dX11_query_105 : decode cX11_query 105 = .ok (.dup, 1) := by decide +kernel
theorem dX11_query_106 : decode cX11_query 106 = .ok (.aload_n 0, 1) := by decide +kernel
theorem dX11_query_107 : decode cX11_query 107 = .ok (.getfield 16, 3) := by decide +kernel
theorem dX11_query_110 : decode cX11_query 110 = .ok (.aload_n 1, 1) := by decide +kernel
theorem dX11_query_111 : decode cX11_query 111 = .ok (.getfield 113, 3) := by decide +kernel
theorem dX11_query_114 : decode cX11_query 114 = .ok (.aload_n 0, 1) := by decide +kernel
theorem dX11_query_115 : decode cX11_query 115 = .ok (.getfield 30, 3) := by decide +kernel
theorem dX11_query_118 : decode cX11_query 118 = .ok (.invokespecial 116, 3) := by decide +kernel
theorem dX11_query_121 : decode cX11_query 121 = .ok (.putfield 119, 3) := by decide +kernel
theorem dX11_query_124 : decode cX11_query 124 = .ok (.aload_n 0, 1) := by decide +kernel
theorem dX11_query_125 : decode cX11_query 125 = .ok (.iconst 0, 1) := by decide +kernel
theorem dX11_query_126 : decode cX11_query 126 = .ok (.invokevirtual 123, 3) := by decide +kernel
theorem dX11_query_129 : decode cX11_query 129 = .ok (.aload_n 0, 1) := by decide +kernel
theorem dX11_query_130 : decode cX11_query 130 = .ok (.invokevirtual 127, 3) := by decide +kernel
theorem dX11_query_133 : decode cX11_query 133 = .ok (.ireturn, 1) := by decide +kernel
def c_X11_query_b129 (F : Nat) (cs1 : CS) (u0 : Nat) : Option (CS × Int32) := Option.bind (ckE cs1 12 u0) fun _ => Option.bind (c_X11_width F cs1 u0) fun v_1 => some (cs1, v_1)
def c_X11_query_b105 (F : Nat) (cs1 : CS) (u0 : Nat) (u1 : Nat) (y0 : Nat) (y1 : Nat) : Option (CS × Int32) := Option.bind (gR cs1 12 386 u0) fun v_3 => Option.bind (gR cs1 10 322 u1) fun v_4 => Option.bind (gR cs1 12 391 u0) fun v_5 => Option.bind (v_5) fun i_6 => Option.bind (v_4) fun i_7 => Option.bind (v_3) fun i_8 => Option.bind (c_X4_init F cs1 y0 i_8 i_7 i_6) fun cs_9 => Option.bind (pR cs_9 12 390 y1 (some y0)) fun cs_10 => Option.bind (ckE cs_10 12 u0) fun _ => Option.bind (c_X11_answer F cs_10 u0 0) fun cs_11 => c_X11_query_b129 F cs_11 u0
def c_X11_query_b63 (F : Nat) (cs1 : CS) (u0 : Nat) (u1 : Nat) : Option (CS × Int32) := Option.bind (pI cs1 12 385 u0 0) fun cs_13 => Option.bind (pI cs_13 12 398 u0 0) fun cs_14 => Option.bind (gI cs_14 10 320 u1) fun v_15 => Option.bind (pI cs_14 12 388 u0 v_15) fun cs_16 => Option.bind (gI cs_16 10 320 u1) fun v_17 => if v_17 = 0 then (Option.bind (pR cs_16 12 389 u0 (some u1)) fun cs_19 => Option.bind (nwO cs_19 5 3) fun cs_20 => c_X11_query_b105 F cs_20 u0 u1 (kK cs_19) u0) else (Option.bind (gI cs_16 10 321 u1) fun v_21 => some (cs_16, (-10) - v_21))
def c_X11_query_b45 (F : Nat) (cs1 : CS) (u0 : Nat) (u1 : Nat) (y0 : Nat) : Option (CS × Int32) := Option.bind (gR cs1 12 386 u0) fun v_22 => Option.bind (v_22) fun i_23 => Option.bind (c_X0_init F cs1 y0 u1 i_23) fun cs_24 => Option.bind (gR cs_24 10 323 u1) fun v_25 => Option.bind (v_25) fun i_26 => Option.bind (ckE cs_24 1 y0) fun _ => Option.bind (c_X0_checkQuery F 300 cs_24 y0 i_26) fun cs_27 => c_X11_query_b63 F cs_27 u0 u1
def c_X11_query_b35 (F : Nat) (cs1 : CS) (u0 : Nat) (u1 : Nat) : Option (CS × Int32) := Option.bind (gI cs1 10 320 u1) fun v_29 => if v_29 = 0 then (Option.bind (nwO cs1 1 6) fun cs_31 => c_X11_query_b45 F cs_31 u0 u1 (kK cs1)) else (c_X11_query_b63 F cs1 u0 u1)
def c_X11_query_b30 (F : Nat) (cs1 : CS) (u0 : Nat) (y0 : Nat) : Option (CS × Int32) := Option.bind (ckE cs1 10 y0) fun _ => Option.bind (c_X9_read F cs1 y0) fun cs_32 => c_X11_query_b35 F cs_32 u0 y0
def c_X11_query_b18 (F : Nat) (cs1 : CS) (u0 : Nat) (y0 : Nat) : Option (CS × Int32) := Option.bind (gR cs1 12 387 u0) fun v_34 => Option.bind (gI cs1 12 385 u0) fun v_35 => Option.bind (v_34) fun i_36 => Option.bind (c_X9_init F cs1 y0 i_36 v_35) fun cs_37 => c_X11_query_b30 F cs_37 u0 y0
def c_X11_query (F : Nat) (cs : CS) (x0 : Nat) : Option (CS × Int32) := Option.bind (gR cs 12 387 x0) fun v_38 => Option.bind (gA cs 12 384 x0) fun v_39 => Option.bind (gI cs 12 385 x0) fun v_40 => Option.bind (v_38) fun i_42 => Option.bind (ckE cs 11 i_42) fun _ => Option.bind (c_X10_scan F cs i_42 x0 v_39 v_40) fun cs_41 => Option.bind (nwO cs_41 10 12) fun cs_44 => c_X11_query_b18 F cs_44 x0 (kK cs_41)
theorem mo_c_X11_query_b129 (F : Nat) (cs1 : CS) (u0 : Nat) (cs9 : CS) (r9 : Int32) (h : c_X11_query_b129 F cs1 u0 = some (cs9, r9)) : kK cs1 ≤ kK cs9 ∧ kM cs1 ≤ kM cs9 := by
  unfold c_X11_query_b129 at h
  replace h := ob h; obtain ⟨w_39, hw_39, h⟩ := h
  replace h := ob h; obtain ⟨v_38, hv_38, h⟩ := h
  have h9 := (Prod.mk.inj (Option.some.inj h)).1
  have k9 := congrArg kK h9; have m9 := congrArg kM h9; exact ⟨by omega, by omega⟩
theorem mo_c_X11_query_b105 (F : Nat) (cs1 : CS) (u0 : Nat) (u1 : Nat) (y0 : Nat) (y1 : Nat) (cs9 : CS) (r9 : Int32) (h : c_X11_query_b105 F cs1 u0 u1 y0 y1 = some (cs9, r9)) : kK cs1 ≤ kK cs9 ∧ kM cs1 ≤ kM cs9 := by
  unfold c_X11_query_b105 at h
  replace h := ob h; obtain ⟨v_38, hv_38, h⟩ := h
  replace h := ob h; obtain ⟨v_39, hv_39, h⟩ := h
  replace h := ob h; obtain ⟨v_40, hv_40, h⟩ := h
  replace h := ob h; obtain ⟨i_41, hi_41, h⟩ := h
  subst hi_41
  replace h := ob h; obtain ⟨i_42, hi_42, h⟩ := h
  subst hi_42
  replace h := ob h; obtain ⟨i_43, hi_43, h⟩ := h
  subst hi_43
  replace h := ob h; obtain ⟨cs_44, hv_44, h⟩ := h
  obtain ⟨qk_44, qm_44⟩ := k_of (mo_c_X4_init F cs1 y0 i_43 i_42 i_41 cs_44 hv_44)
  replace h := ob h; obtain ⟨cs_45, hv_45, h⟩ := h
  obtain ⟨qk_45, qm_45⟩ := pR_k hv_45
  replace h := ob h; obtain ⟨w_47, hw_47, h⟩ := h
  replace h := ob h; obtain ⟨cs_46, hv_46, h⟩ := h
  obtain ⟨qk_46, qm_46⟩ := mo_c_X11_answer F cs_45 u0 0 cs_46 hv_46
  obtain ⟨k9, m9⟩ := mo_c_X11_query_b129 F cs_46 u0 cs9 r9 h
  exact ⟨by omega, by omega⟩
theorem mo_c_X11_query_b63 (F : Nat) (cs1 : CS) (u0 : Nat) (u1 : Nat) (cs9 : CS) (r9 : Int32) (h : c_X11_query_b63 F cs1 u0 u1 = some (cs9, r9)) : kK cs1 ≤ kK cs9 ∧ kM cs1 ≤ kM cs9 := by
  unfold c_X11_query_b63 at h
  replace h := ob h; obtain ⟨cs_38, hv_38, h⟩ := h
  obtain ⟨qk_38, qm_38⟩ := pI_k hv_38
  replace h := ob h; obtain ⟨cs_39, hv_39, h⟩ := h
  obtain ⟨qk_39, qm_39⟩ := pI_k hv_39
  replace h := ob h; obtain ⟨v_40, hv_40, h⟩ := h
  replace h := ob h; obtain ⟨cs_41, hv_41, h⟩ := h
  obtain ⟨qk_41, qm_41⟩ := pI_k hv_41
  replace h := ob h; obtain ⟨v_42, hv_42, h⟩ := h
  by_cases c_43 : v_42 = 0
  · skip
    replace h := (if_pos c_43).symm.trans h
    replace h := ob h; obtain ⟨cs_44, hv_44, h⟩ := h
    obtain ⟨qk_44, qm_44⟩ := pR_k hv_44
    replace h := ob h; obtain ⟨cs_45, hv_45, h⟩ := h
    obtain ⟨qk_45, qm_45⟩ := nwO_k hv_45
    obtain ⟨k9, m9⟩ := mo_c_X11_query_b105 F cs_45 u0 u1 (kK cs_44) u0 cs9 r9 h
    exact ⟨by omega, by omega⟩
  · skip
    replace h := (if_neg c_43).symm.trans h
    replace h := ob h; obtain ⟨v_46, hv_46, h⟩ := h
    have h9 := (Prod.mk.inj (Option.some.inj h)).1
    have k9 := congrArg kK h9; have m9 := congrArg kM h9; exact ⟨by omega, by omega⟩
theorem mo_c_X11_query_b45 (F : Nat) (cs1 : CS) (u0 : Nat) (u1 : Nat) (y0 : Nat) (cs9 : CS) (r9 : Int32) (h : c_X11_query_b45 F cs1 u0 u1 y0 = some (cs9, r9)) : kK cs1 ≤ kK cs9 ∧ kM cs1 ≤ kM cs9 := by
  unfold c_X11_query_b45 at h
  replace h := ob h; obtain ⟨v_38, hv_38, h⟩ := h
  replace h := ob h; obtain ⟨i_39, hi_39, h⟩ := h
  subst hi_39
  replace h := ob h; obtain ⟨cs_40, hv_40, h⟩ := h
  obtain ⟨qk_40, qm_40⟩ := k_of (mo_c_X0_init F cs1 y0 u1 i_39 cs_40 hv_40)
  replace h := ob h; obtain ⟨v_41, hv_41, h⟩ := h
  replace h := ob h; obtain ⟨i_42, hi_42, h⟩ := h
  subst hi_42
  replace h := ob h; obtain ⟨w_44, hw_44, h⟩ := h
  replace h := ob h; obtain ⟨cs_43, hv_43, h⟩ := h
  obtain ⟨qk_43, qm_43⟩ := k_of (mo_c_X0_checkQuery F 300 cs_40 y0 i_42 cs_43 hv_43)
  obtain ⟨k9, m9⟩ := mo_c_X11_query_b63 F cs_43 u0 u1 cs9 r9 h
  exact ⟨by omega, by omega⟩
theorem mo_c_X11_query_b35 (F : Nat) (cs1 : CS) (u0 : Nat) (u1 : Nat) (cs9 : CS) (r9 : Int32) (h : c_X11_query_b35 F cs1 u0 u1 = some (cs9, r9)) : kK cs1 ≤ kK cs9 ∧ kM cs1 ≤ kM cs9 := by
  unfold c_X11_query_b35 at h
  replace h := ob h; obtain ⟨v_38, hv_38, h⟩ := h
  by_cases c_39 : v_38 = 0
  · skip
    replace h := (if_pos c_39).symm.trans h
    replace h := ob h; obtain ⟨cs_40, hv_40, h⟩ := h
    obtain ⟨qk_40, qm_40⟩ := nwO_k hv_40
    obtain ⟨k9, m9⟩ := mo_c_X11_query_b45 F cs_40 u0 u1 (kK cs1) cs9 r9 h
    exact ⟨by omega, by omega⟩
  · skip
    replace h := (if_neg c_39).symm.trans h
    obtain ⟨k9, m9⟩ := mo_c_X11_query_b63 F cs1 u0 u1 cs9 r9 h
    exact ⟨by omega, by omega⟩
theorem mo_c_X11_query_b30 (F : Nat) (cs1 : CS) (u0 : Nat) (y0 : Nat) (cs9 : CS) (r9 : Int32) (h : c_X11_query_b30 F cs1 u0 y0 = some (cs9, r9)) : kK cs1 ≤ kK cs9 ∧ kM cs1 ≤ kM cs9 := by
  unfold c_X11_query_b30 at h
  replace h := ob h; obtain ⟨w_39, hw_39, h⟩ := h
  replace h := ob h; obtain ⟨cs_38, hv_38, h⟩ := h
  obtain ⟨qk_38, qm_38⟩ := mo_c_X9_read F cs1 y0 cs_38 hv_38
  obtain ⟨k9, m9⟩ := mo_c_X11_query_b35 F cs_38 u0 y0 cs9 r9 h
  exact ⟨by omega, by omega⟩
theorem mo_c_X11_query_b18 (F : Nat) (cs1 : CS) (u0 : Nat) (y0 : Nat) (cs9 : CS) (r9 : Int32) (h : c_X11_query_b18 F cs1 u0 y0 = some (cs9, r9)) : kK cs1 ≤ kK cs9 ∧ kM cs1 ≤ kM cs9 := by
  unfold c_X11_query_b18 at h
  replace h := ob h; obtain ⟨v_38, hv_38, h⟩ := h
  replace h := ob h; obtain ⟨v_39, hv_39, h⟩ := h
  replace h := ob h; obtain ⟨i_40, hi_40, h⟩ := h
  subst hi_40
  replace h := ob h; obtain ⟨cs_41, hv_41, h⟩ := h
  obtain ⟨qk_41, qm_41⟩ := mo_c_X9_init F cs1 y0 i_40 v_39 cs_41 hv_41
  obtain ⟨k9, m9⟩ := mo_c_X11_query_b30 F cs_41 u0 y0 cs9 r9 h
  exact ⟨by omega, by omega⟩
theorem mo_c_X11_query (F : Nat) (cs : CS) (x0 : Nat) (cs9 : CS) (r9 : Int32) (h : c_X11_query F cs x0 = some (cs9, r9)) : kK cs ≤ kK cs9 ∧ kM cs ≤ kM cs9 := by
  unfold c_X11_query at h
  replace h := ob h; obtain ⟨v_38, hv_38, h⟩ := h
  replace h := ob h; obtain ⟨v_39, hv_39, h⟩ := h
  replace h := ob h; obtain ⟨v_40, hv_40, h⟩ := h
  replace h := ob h; obtain ⟨i_42, hi_42, h⟩ := h
  subst hi_42
  replace h := ob h; obtain ⟨w_43, hw_43, h⟩ := h
  replace h := ob h; obtain ⟨cs_41, hv_41, h⟩ := h
  obtain ⟨qk_41, qm_41⟩ := mo_c_X10_scan F cs i_42 x0 v_39 v_40 cs_41 hv_41
  replace h := ob h; obtain ⟨cs_44, hv_44, h⟩ := h
  obtain ⟨qk_44, qm_44⟩ := nwO_k hv_44
  obtain ⟨k9, m9⟩ := mo_c_X11_query_b18 F cs_44 x0 (kK cs_41) cs9 r9 h
  exact ⟨by omega, by omega⟩
set_option maxHeartbeats 4000000 in
set_option maxRecDepth 100000 in
theorem sa_X11_query (l : Launch) (dC : Nat → ClassId) (dI : Nat → Nat → Nat) (cB cI cJ cZ cS cO : ClassId) (b : Nat) (K V : Nat → Nat) (fz : Value) (F : Nat) (cs : CS) (x0 : Nat) (cs9 : CS) (r9 : Int32) (hf : c_X11_query F cs x0 = some (cs9, r9)) : oaI l dC dI cB cI cJ cZ cS cO b K V fz yX11_query (wsOf yX11_query cX11_query 3 (some .int)) (607) [.ref (b + x0)] cs cs9 r9 := by
  obtain ⟨kb9, mb9⟩ := mo_c_X11_query F cs x0 cs9 r9 hf
  refine ⟨⟨kb9, mb9⟩, ?_⟩
  refine Met.ofW (cc := cX11_query) (maxL := 3) (ret := (some .int)) (by decide) rfl ?_
  intro p e s m args below meth c s₁ B hml hv
  obtain ⟨rfl, hsz, hP, hK, hD0, hZ⟩ := hv
  have hx := B.exec
  have hb := B.bytes
  have hr := B.returns
  have hts := atoms_spec (ws := (wsOf yX11_query cX11_query 3 (some .int))) B.pre
  have hown : s.vm.findClass RX11 = some m.cls := findClass_of_methodNamed B.named
  have hlocks := B.notSynchronized
  have hD := hD0.self (sz := b + kK cs)
  generalize hAe : va_A (cW cB cI cJ cZ cS cO b cs) (b + kK cs) = A at hD hZ ⊢
  have hA : ∀ q : Nat, s.heap.size ≤ q → A q := fun q h => by rw [← hAe]; exact Or.inr (by omega)
  have hS : va_S A s.heap s.heap [] := va_S.rf
  have hG : va_S A s.heap s.heap [] := va_S.rf
  have hgz : s.heap.size = b + kK cs := hsz
  have hl := lv_entry ([.ref (b + x0)]) (n := 3) (Nat.le_of_ble_eq_true rfl)
  rw [lg_entry_eq]
  generalize (lg_sl ([.ref (b + x0)]) ++ List.replicate (3 - (lg_sl ([.ref (b + x0)])).length) Slot.unset).toArray = ls at hl ⊢
  have hl : lv_has ls 3 [(0, .ref (b + x0))] := hl
  have B_129 : ∀ (cs1 : CS) (u0 : Nat), c_X11_query_b129 F cs1 u0 = some (cs9, r9) → kK cs ≤ kK cs1 → kM cs ≤ kM cs1 → ∀ (Gh H : Heap) (locs : List Loc) (ls : Array Slot), va_P (dC, dI) vwCl (cW cB cI cJ cZ cS cO b cs1) H → va_D A (cW cB cI cJ cZ cS cO b cs1) → va_S A s.heap Gh [] → Gh.size = b + kK cs1 → va_S A Gh H locs → lv_has ls 3 [(0, .ref (b + u0))] → W p l e (headSpec (wsOf yX11_query cX11_query 3 (some .int)) ({ frames := 607, cells := kK cs9 - kK cs, slots := kM cs9 - kM cs, locals := 60 * (607) } : Room)).room s m ([.ref (b + x0)] : List Value).toArray below meth c H locs (kK cs1 - kK cs) (kM cs1 - kM cs) (MQ below (va_Qi (fun (x : Int32) (_ : Unit) => x = r9) (fun _ t_ => va_P (dC, dI) vwCl (cW cB cI cJ cZ cS cO b cs9) t_.heap ∧ va_D A (cW cB cI cJ cZ cS cO b cs9) ∧ b + kK cs9 ≤ t_.heap.size) A) ([.ref (b + x0)] : List Value).toArray s (kK cs9 - kK cs) (kM cs9 - kM cs) A) (F0 m 129 ls []) := by
    intro cs1 u0 h hmk hmm Gh H locs ls hP hD hG hgz hS hl
    obtain ⟨kb9, mb9⟩ := mo_c_X11_query_b129 F cs1 u0 cs9 r9 h
    unfold c_X11_query_b129 at h
    refine lv_aload_n hx hb dX11_query_129 rfl (lv_at hl 0 rfl) ?_
    replace h := ob h; obtain ⟨w_2, hw_2, h⟩ := h
    replace h := ob h; obtain ⟨v_1, hv_1, h⟩ := h
    refine cbvI (As := []) hx hb hml hts hown hK hP hD hS hG hA (by omega) (by omega) hZ (X := 12) (by decide) rfl (ckE_some hw_2) (sc_X11_width l dC dI cB cI cJ cZ cS cO b K V fz F cs1 u0 v_1 hv_1) (cw_X11_X11_width hts (fr := 0) (Nat.le_of_ble_eq_true rfl) (Nat.le_of_ble_eq_true rfl)) rfl hl.1 (Nat.le_of_ble_eq_true rfl) ⟨by show kK cs1 - kK cs ≤ kK cs9 - kK cs; omega, by show kM cs1 - kM cs ≤ kM cs9 - kM cs; omega⟩ dX11_query_130 (fun H locs hP hD hG hgz hS => ?_)
    obtain ⟨e1, e2⟩ := Prod.mk.inj (Option.some.inj h)
    rw [e1] at hP hD
    have e3 := congrArg kK e1
    have e4 := congrArg kM e1
    refine W_cnt (c2 := kK cs9 - kK cs) (n2 := kM cs9 - kM cs) (by omega) (by omega) ?_
    exact W.iret (v := v_1) hx hb hr (fun t_ ht hW => ⟨⟨v_1, (), rfl, e2, by rw [ht]; exact hP, hD, by rw [ht]; have := hS.1; omega⟩, (hG.comp hS).F ht⟩) (hG.comp hS).2.2 dX11_query_133
  have B_105 : ∀ (cs1 : CS) (u0 : Nat) (u1 : Nat) (y0 : Nat) (y1 : Nat), c_X11_query_b105 F cs1 u0 u1 y0 y1 = some (cs9, r9) → kK cs ≤ kK cs1 → kM cs ≤ kM cs1 → ∀ (Gh H : Heap) (locs : List Loc) (ls : Array Slot), va_P (dC, dI) vwCl (cW cB cI cJ cZ cS cO b cs1) H → va_D A (cW cB cI cJ cZ cS cO b cs1) → va_S A s.heap Gh [] → Gh.size = b + kK cs1 → va_S A Gh H locs → lv_has ls 3 [(0, .ref (b + u0)), (1, .ref (b + u1))] → W p l e (headSpec (wsOf yX11_query cX11_query 3 (some .int)) ({ frames := 607, cells := kK cs9 - kK cs, slots := kM cs9 - kM cs, locals := 60 * (607) } : Room)).room s m ([.ref (b + x0)] : List Value).toArray below meth c H locs (kK cs1 - kK cs) (kM cs1 - kM cs) (MQ below (va_Qi (fun (x : Int32) (_ : Unit) => x = r9) (fun _ t_ => va_P (dC, dI) vwCl (cW cB cI cJ cZ cS cO b cs9) t_.heap ∧ va_D A (cW cB cI cJ cZ cS cO b cs9) ∧ b + kK cs9 ≤ t_.heap.size) A) ([.ref (b + x0)] : List Value).toArray s (kK cs9 - kK cs) (kM cs9 - kM cs) A) (F0 m 105 ls [.ref (b + y0), .ref (b + y1)]) := by
    intro cs1 u0 u1 y0 y1 h hmk hmm Gh H locs ls hP hD hG hgz hS hl
    obtain ⟨kb9, mb9⟩ := mo_c_X11_query_b105 F cs1 u0 u1 y0 y1 cs9 r9 h
    unfold c_X11_query_b105 at h
    refine lv_dup hx hb dX11_query_105 rfl ?_
    refine lv_aload_n hx hb dX11_query_106 rfl (lv_at hl 0 rfl) ?_
    replace h := ob h; obtain ⟨v_3, hv_3, h⟩ := h
    refine fg_X11_16 hx hb hts hown hK hP hv_3 dX11_query_107 ?_
    refine lv_aload_n hx hb dX11_query_110 rfl (lv_at hl 1 rfl) ?_
    replace h := ob h; obtain ⟨v_4, hv_4, h⟩ := h
    refine fg_X11_113 hx hb hts hown hK hP hv_4 dX11_query_111 ?_
    refine lv_aload_n hx hb dX11_query_114 rfl (lv_at hl 0 rfl) ?_
    replace h := ob h; obtain ⟨v_5, hv_5, h⟩ := h
    refine fg_X11_30 hx hb hts hown hK hP hv_5 dX11_query_115 ?_
    replace h := ob h; obtain ⟨i_6, hi_6, h⟩ := h
    subst hi_6
    replace h := ob h; obtain ⟨i_7, hi_7, h⟩ := h
    subst hi_7
    replace h := ob h; obtain ⟨i_8, hi_8, h⟩ := h
    subst hi_8
    replace h := ob h; obtain ⟨cs_9, hv_9, h⟩ := h
    obtain ⟨qk_9, qm_9⟩ := k_of (mo_c_X4_init F cs1 y0 i_8 i_7 i_6 cs_9 hv_9)
    refine cbiV (As := [.ref (b + i_8), .ref (b + i_7), .ref (b + i_6)]) hx hb hml hts hown hK hP hD hS hG hA (by omega) (by omega) hZ (sc_X4_init l dC dI cB cI cJ cZ cS cO b K V fz F cs1 y0 i_8 i_7 i_6 cs_9 hv_9) (cw_X11_X4_init hts (fr := 1) (Nat.le_of_ble_eq_true rfl) (Nat.le_of_ble_eq_true rfl)) rfl hl.1 (Nat.le_of_ble_eq_true rfl) ⟨by show kK cs1 - kK cs ≤ kK cs9 - kK cs; omega, by show kM cs1 - kM cs ≤ kM cs9 - kM cs; omega⟩ dX11_query_118 (fun H locs hP hD hG hgz hS => ?_)
    replace h := ob h; obtain ⟨cs_10, hv_10, h⟩ := h
    obtain ⟨qk_10, qm_10⟩ := pR_k hv_10
    refine fp_X11_119 (v := (some y0)) hx hb hts hown hK hP hD hS hv_10 dX11_query_121 (fun H locs hP hD hS => ?_)
    refine lv_aload_n hx hb dX11_query_124 rfl (lv_at hl 0 rfl) ?_
    refine lv_iconst (v := 0) hx hb dX11_query_125 (by decide) ?_
    replace h := ob h; obtain ⟨w_12, hw_12, h⟩ := h
    replace h := ob h; obtain ⟨cs_11, hv_11, h⟩ := h
    obtain ⟨qk_11, qm_11⟩ := mo_c_X11_answer F cs_10 u0 0 cs_11 hv_11
    obtain ⟨k9_11, m9_11⟩ := mo_c_X11_query_b129 F cs_11 u0 cs9 r9 h
    refine cavV (As := [.int 0]) hx hb hml hts hown hK hP hD hS hG hA (by omega) (by omega) hZ (X := 12) (by decide) rfl (ckE_some hw_12) (sa_X11_answer l dC dI cB cI cJ cZ cS cO b K V fz F cs_10 u0 0 cs_11 hv_11) (cw_X11_X11_answer hts (fr := 308) (Nat.le_of_ble_eq_true rfl) (Nat.le_of_ble_eq_true rfl)) rfl hl.1 (Nat.le_of_ble_eq_true rfl) ⟨by show kK cs1 - kK cs + (kK cs_11 - kK cs_10) ≤ kK cs9 - kK cs; omega, by show kM cs1 - kM cs + (kM cs_11 - kM cs_10) ≤ kM cs9 - kM cs; omega⟩ dX11_query_126 (fun H locs hP hD hG hgz hS => ?_)
    refine W_cnt (c2 := kK cs_11 - kK cs) (n2 := kM cs_11 - kM cs) (by omega) (by omega) ?_
    exact B_129 cs_11 u0 h (by omega) (by omega) _ _ _ _ hP hD hG (by omega) hS (lv_sub hl [0] rfl)
  have B_63 : ∀ (cs1 : CS) (u0 : Nat) (u1 : Nat), c_X11_query_b63 F cs1 u0 u1 = some (cs9, r9) → kK cs ≤ kK cs1 → kM cs ≤ kM cs1 → ∀ (Gh H : Heap) (locs : List Loc) (ls : Array Slot), va_P (dC, dI) vwCl (cW cB cI cJ cZ cS cO b cs1) H → va_D A (cW cB cI cJ cZ cS cO b cs1) → va_S A s.heap Gh [] → Gh.size = b + kK cs1 → va_S A Gh H locs → lv_has ls 3 [(0, .ref (b + u0)), (1, .ref (b + u1))] → W p l e (headSpec (wsOf yX11_query cX11_query 3 (some .int)) ({ frames := 607, cells := kK cs9 - kK cs, slots := kM cs9 - kM cs, locals := 60 * (607) } : Room)).room s m ([.ref (b + x0)] : List Value).toArray below meth c H locs (kK cs1 - kK cs) (kM cs1 - kM cs) (MQ below (va_Qi (fun (x : Int32) (_ : Unit) => x = r9) (fun _ t_ => va_P (dC, dI) vwCl (cW cB cI cJ cZ cS cO b cs9) t_.heap ∧ va_D A (cW cB cI cJ cZ cS cO b cs9) ∧ b + kK cs9 ≤ t_.heap.size) A) ([.ref (b + x0)] : List Value).toArray s (kK cs9 - kK cs) (kM cs9 - kM cs) A) (F0 m 63 ls []) := by
    intro cs1 u0 u1 h hmk hmm Gh H locs ls hP hD hG hgz hS hl
    obtain ⟨kb9, mb9⟩ := mo_c_X11_query_b63 F cs1 u0 u1 cs9 r9 h
    unfold c_X11_query_b63 at h
    refine lv_aload_n hx hb dX11_query_63 rfl (lv_at hl 0 rfl) ?_
    refine lv_iconst (v := 0) hx hb dX11_query_64 (by decide) ?_
    replace h := ob h; obtain ⟨cs_13, hv_13, h⟩ := h
    obtain ⟨qk_13, qm_13⟩ := pI_k hv_13
    refine fp_X11_59 hx hb hts hown hK hP hD hS hv_13 dX11_query_65 (fun H locs hP hD hS => ?_)
    refine lv_aload_n hx hb dX11_query_68 rfl (lv_at hl 0 rfl) ?_
    refine lv_iconst (v := 0) hx hb dX11_query_69 (by decide) ?_
    replace h := ob h; obtain ⟨cs_14, hv_14, h⟩ := h
    obtain ⟨qk_14, qm_14⟩ := pI_k hv_14
    refine fp_X11_98 hx hb hts hown hK hP hD hS hv_14 dX11_query_70 (fun H locs hP hD hS => ?_)
    refine lv_aload_n hx hb dX11_query_73 rfl (lv_at hl 0 rfl) ?_
    refine lv_aload_n hx hb dX11_query_74 rfl (lv_at hl 1 rfl) ?_
    replace h := ob h; obtain ⟨v_15, hv_15, h⟩ := h
    refine fg_X11_82 hx hb hts hown hK hP hv_15 dX11_query_75 ?_
    replace h := ob h; obtain ⟨cs_16, hv_16, h⟩ := h
    obtain ⟨qk_16, qm_16⟩ := pI_k hv_16
    refine fp_X11_101 hx hb hts hown hK hP hD hS hv_16 dX11_query_78 (fun H locs hP hD hS => ?_)
    refine lv_aload_n hx hb dX11_query_81 rfl (lv_at hl 1 rfl) ?_
    replace h := ob h; obtain ⟨v_17, hv_17, h⟩ := h
    refine fg_X11_82 hx hb hts hown hK hP hv_17 dX11_query_82 ?_
    refine lv_if_eq (tgt := 96) hx hb dX11_query_85 (by decide) (fun c_18 => ?_) (fun c_18 => ?_)
    · skip
      replace h := (if_pos c_18).symm.trans h
      refine lv_aload_n hx hb dX11_query_96 rfl (lv_at hl 0 rfl) ?_
      refine lv_aload_n hx hb dX11_query_97 rfl (lv_at hl 1 rfl) ?_
      replace h := ob h; obtain ⟨cs_19, hv_19, h⟩ := h
      obtain ⟨qk_19, qm_19⟩ := pR_k hv_19
      refine fp_X11_107 (v := (some u1)) hx hb hts hown hK hP hD hS hv_19 dX11_query_98 (fun H locs hP hD hS => ?_)
      refine lv_aload_n hx hb dX11_query_101 rfl (lv_at hl 0 rfl) ?_
      replace h := ob h; obtain ⟨cs_20, hv_20, h⟩ := h
      obtain ⟨qk_20, qm_20⟩ := nwO_k hv_20
      obtain ⟨k9_20, m9_20⟩ := mo_c_X11_query_b105 F cs_20 u0 u1 (kK cs_19) u0 cs9 r9 h
      refine new_X11_111 hx hb hts hown hK hP hD hS hG hA (by omega) (by omega) ⟨by show kK cs1 - kK cs + 1 ≤ kK cs9 - kK cs; omega, by show kM cs1 - kM cs + 3 ≤ kM cs9 - kM cs; omega⟩ hv_20 dX11_query_102 (fun H locs hP hD hG hgz hS => ?_)
      refine W_cnt (c2 := kK cs_20 - kK cs) (n2 := kM cs_20 - kM cs) (by omega) (by omega) ?_
      exact B_105 cs_20 u0 u1 (kK cs_19) u0 h (by omega) (by omega) _ _ _ _ hP hD hG (by omega) hS (lv_sub hl [0, 1] rfl)
    · skip
      replace h := (if_neg c_18).symm.trans h
      refine lv_bipush (v := (-10)) hx hb dX11_query_88 (by decide) ?_
      refine lv_aload_n hx hb dX11_query_90 rfl (lv_at hl 1 rfl) ?_
      replace h := ob h; obtain ⟨v_21, hv_21, h⟩ := h
      refine fg_X11_104 hx hb hts hown hK hP hv_21 dX11_query_91 ?_
      refine lv_isub hx hb dX11_query_94 ?_
      obtain ⟨e1, e2⟩ := Prod.mk.inj (Option.some.inj h)
      rw [e1] at hP hD
      have e3 := congrArg kK e1
      have e4 := congrArg kM e1
      refine W_cnt (c2 := kK cs9 - kK cs) (n2 := kM cs9 - kM cs) (by omega) (by omega) ?_
      exact W.iret (v := (-10) - v_21) hx hb hr (fun t_ ht hW => ⟨⟨(-10) - v_21, (), rfl, e2, by rw [ht]; exact hP, hD, by rw [ht]; have := hS.1; omega⟩, (hG.comp hS).F ht⟩) (hG.comp hS).2.2 dX11_query_95
  have B_45 : ∀ (cs1 : CS) (u0 : Nat) (u1 : Nat) (y0 : Nat), c_X11_query_b45 F cs1 u0 u1 y0 = some (cs9, r9) → kK cs ≤ kK cs1 → kM cs ≤ kM cs1 → ∀ (Gh H : Heap) (locs : List Loc) (ls : Array Slot), va_P (dC, dI) vwCl (cW cB cI cJ cZ cS cO b cs1) H → va_D A (cW cB cI cJ cZ cS cO b cs1) → va_S A s.heap Gh [] → Gh.size = b + kK cs1 → va_S A Gh H locs → lv_has ls 3 [(0, .ref (b + u0)), (1, .ref (b + u1))] → W p l e (headSpec (wsOf yX11_query cX11_query 3 (some .int)) ({ frames := 607, cells := kK cs9 - kK cs, slots := kM cs9 - kM cs, locals := 60 * (607) } : Room)).room s m ([.ref (b + x0)] : List Value).toArray below meth c H locs (kK cs1 - kK cs) (kM cs1 - kM cs) (MQ below (va_Qi (fun (x : Int32) (_ : Unit) => x = r9) (fun _ t_ => va_P (dC, dI) vwCl (cW cB cI cJ cZ cS cO b cs9) t_.heap ∧ va_D A (cW cB cI cJ cZ cS cO b cs9) ∧ b + kK cs9 ≤ t_.heap.size) A) ([.ref (b + x0)] : List Value).toArray s (kK cs9 - kK cs) (kM cs9 - kM cs) A) (F0 m 45 ls [.ref (b + y0)]) := by
    intro cs1 u0 u1 y0 h hmk hmm Gh H locs ls hP hD hG hgz hS hl
    obtain ⟨kb9, mb9⟩ := mo_c_X11_query_b45 F cs1 u0 u1 y0 cs9 r9 h
    unfold c_X11_query_b45 at h
    refine lv_dup hx hb dX11_query_45 rfl ?_
    refine lv_aload_n hx hb dX11_query_46 rfl (lv_at hl 1 rfl) ?_
    refine lv_aload_n hx hb dX11_query_47 rfl (lv_at hl 0 rfl) ?_
    replace h := ob h; obtain ⟨v_22, hv_22, h⟩ := h
    refine fg_X11_16 hx hb hts hown hK hP hv_22 dX11_query_48 ?_
    replace h := ob h; obtain ⟨i_23, hi_23, h⟩ := h
    subst hi_23
    replace h := ob h; obtain ⟨cs_24, hv_24, h⟩ := h
    obtain ⟨qk_24, qm_24⟩ := k_of (mo_c_X0_init F cs1 y0 u1 i_23 cs_24 hv_24)
    refine cbiV (As := [.ref (b + u1), .ref (b + i_23)]) hx hb hml hts hown hK hP hD hS hG hA (by omega) (by omega) hZ (sc_X0_init l dC dI cB cI cJ cZ cS cO b K V fz F cs1 y0 u1 i_23 cs_24 hv_24) (cw_X11_X0_init hts (fr := 1) (Nat.le_of_ble_eq_true rfl) (Nat.le_of_ble_eq_true rfl)) rfl hl.1 (Nat.le_of_ble_eq_true rfl) ⟨by show kK cs1 - kK cs ≤ kK cs9 - kK cs; omega, by show kM cs1 - kM cs ≤ kM cs9 - kM cs; omega⟩ dX11_query_51 (fun H locs hP hD hG hgz hS => ?_)
    refine lv_astore_n (lv' := [(2, .ref (b + y0)), (0, .ref (b + u0)), (1, .ref (b + u1))]) hx hb dX11_query_54 rfl hl (by decide) rfl (fun ls hl => ?_)
    refine lv_aload_n hx hb dX11_query_55 rfl (lv_at hl 0 rfl) ?_
    refine lv_aload_n hx hb dX11_query_56 rfl (lv_at hl 2 rfl) ?_
    replace h := ob h; obtain ⟨v_25, hv_25, h⟩ := h
    refine fg_X11_90 hx hb hts hown hK hP hv_25 dX11_query_57 ?_
    replace h := ob h; obtain ⟨i_26, hi_26, h⟩ := h
    subst hi_26
    replace h := ob h; obtain ⟨w_28, hw_28, h⟩ := h
    replace h := ob h; obtain ⟨cs_27, hv_27, h⟩ := h
    obtain ⟨qk_27, qm_27⟩ := k_of (mo_c_X0_checkQuery F 300 cs_24 y0 i_26 cs_27 hv_27)
    refine cbnV (As := [.ref (b + i_26)]) hx hb hml hts hown hK hP hD hS hG hA (by omega) (by omega) hZ (X := 1) (by decide) rfl (ckE_some hw_28) (sc_X0_checkQuery l dC dI cB cI cJ cZ cS cO b K V fz F 300 cs_24 y0 i_26 cs_27 hv_27) (cw_X11_X0_checkQuery hZ hts (fr := 306) (Nat.le_of_ble_eq_true rfl) (Nat.le_of_ble_eq_true rfl)) rfl hl.1 (Nat.le_of_ble_eq_true rfl) ⟨by show kK cs1 - kK cs ≤ kK cs9 - kK cs; omega, by show kM cs1 - kM cs ≤ kM cs9 - kM cs; omega⟩ dX11_query_60 (fun H locs hP hD hG hgz hS => ?_)
    refine W_cnt (c2 := kK cs_27 - kK cs) (n2 := kM cs_27 - kM cs) (by omega) (by omega) ?_
    exact B_63 cs_27 u0 u1 h (by omega) (by omega) _ _ _ _ hP hD hG (by omega) hS (lv_sub hl [1, 2] rfl)
  have B_35 : ∀ (cs1 : CS) (u0 : Nat) (u1 : Nat), c_X11_query_b35 F cs1 u0 u1 = some (cs9, r9) → kK cs ≤ kK cs1 → kM cs ≤ kM cs1 → ∀ (Gh H : Heap) (locs : List Loc) (ls : Array Slot), va_P (dC, dI) vwCl (cW cB cI cJ cZ cS cO b cs1) H → va_D A (cW cB cI cJ cZ cS cO b cs1) → va_S A s.heap Gh [] → Gh.size = b + kK cs1 → va_S A Gh H locs → lv_has ls 3 [(0, .ref (b + u0)), (1, .ref (b + u1))] → W p l e (headSpec (wsOf yX11_query cX11_query 3 (some .int)) ({ frames := 607, cells := kK cs9 - kK cs, slots := kM cs9 - kM cs, locals := 60 * (607) } : Room)).room s m ([.ref (b + x0)] : List Value).toArray below meth c H locs (kK cs1 - kK cs) (kM cs1 - kM cs) (MQ below (va_Qi (fun (x : Int32) (_ : Unit) => x = r9) (fun _ t_ => va_P (dC, dI) vwCl (cW cB cI cJ cZ cS cO b cs9) t_.heap ∧ va_D A (cW cB cI cJ cZ cS cO b cs9) ∧ b + kK cs9 ≤ t_.heap.size) A) ([.ref (b + x0)] : List Value).toArray s (kK cs9 - kK cs) (kM cs9 - kM cs) A) (F0 m 35 ls []) := by
    intro cs1 u0 u1 h hmk hmm Gh H locs ls hP hD hG hgz hS hl
    obtain ⟨kb9, mb9⟩ := mo_c_X11_query_b35 F cs1 u0 u1 cs9 r9 h
    unfold c_X11_query_b35 at h
    refine lv_aload_n hx hb dX11_query_35 rfl (lv_at hl 1 rfl) ?_
    replace h := ob h; obtain ⟨v_29, hv_29, h⟩ := h
    refine fg_X11_82 hx hb hts hown hK hP hv_29 dX11_query_36 ?_
    refine lv_if_ne (tgt := 63) hx hb dX11_query_39 (by decide) (fun c_30 => ?_) (fun c_30 => ?_)
    · skip
      replace h := (if_neg c_30).symm.trans h
      refine W_cnt (c2 := kK cs1 - kK cs) (n2 := kM cs1 - kM cs) (by omega) (by omega) ?_
      exact B_63 cs1 u0 u1 h (by omega) (by omega) _ _ _ _ hP hD hG (by omega) hS (lv_sub hl [0, 1] rfl)
    · skip
      replace h := (if_pos c_30).symm.trans h
      replace h := ob h; obtain ⟨cs_31, hv_31, h⟩ := h
      obtain ⟨qk_31, qm_31⟩ := nwO_k hv_31
      obtain ⟨k9_31, m9_31⟩ := mo_c_X11_query_b45 F cs_31 u0 u1 (kK cs1) cs9 r9 h
      refine new_X11_85 hx hb hts hown hK hP hD hS hG hA (by omega) (by omega) ⟨by show kK cs1 - kK cs + 1 ≤ kK cs9 - kK cs; omega, by show kM cs1 - kM cs + 6 ≤ kM cs9 - kM cs; omega⟩ hv_31 dX11_query_42 (fun H locs hP hD hG hgz hS => ?_)
      refine W_cnt (c2 := kK cs_31 - kK cs) (n2 := kM cs_31 - kM cs) (by omega) (by omega) ?_
      exact B_45 cs_31 u0 u1 (kK cs1) h (by omega) (by omega) _ _ _ _ hP hD hG (by omega) hS (lv_sub hl [0, 1] rfl)
  have B_30 : ∀ (cs1 : CS) (u0 : Nat) (y0 : Nat), c_X11_query_b30 F cs1 u0 y0 = some (cs9, r9) → kK cs ≤ kK cs1 → kM cs ≤ kM cs1 → ∀ (Gh H : Heap) (locs : List Loc) (ls : Array Slot), va_P (dC, dI) vwCl (cW cB cI cJ cZ cS cO b cs1) H → va_D A (cW cB cI cJ cZ cS cO b cs1) → va_S A s.heap Gh [] → Gh.size = b + kK cs1 → va_S A Gh H locs → lv_has ls 3 [(0, .ref (b + u0))] → W p l e (headSpec (wsOf yX11_query cX11_query 3 (some .int)) ({ frames := 607, cells := kK cs9 - kK cs, slots := kM cs9 - kM cs, locals := 60 * (607) } : Room)).room s m ([.ref (b + x0)] : List Value).toArray below meth c H locs (kK cs1 - kK cs) (kM cs1 - kM cs) (MQ below (va_Qi (fun (x : Int32) (_ : Unit) => x = r9) (fun _ t_ => va_P (dC, dI) vwCl (cW cB cI cJ cZ cS cO b cs9) t_.heap ∧ va_D A (cW cB cI cJ cZ cS cO b cs9) ∧ b + kK cs9 ≤ t_.heap.size) A) ([.ref (b + x0)] : List Value).toArray s (kK cs9 - kK cs) (kM cs9 - kM cs) A) (F0 m 30 ls [.ref (b + y0)]) := by
    intro cs1 u0 y0 h hmk hmm Gh H locs ls hP hD hG hgz hS hl
    obtain ⟨kb9, mb9⟩ := mo_c_X11_query_b30 F cs1 u0 y0 cs9 r9 h
    unfold c_X11_query_b30 at h
    refine lv_astore_n (lv' := [(1, .ref (b + y0)), (0, .ref (b + u0))]) hx hb dX11_query_30 rfl hl (by decide) rfl (fun ls hl => ?_)
    refine lv_aload_n hx hb dX11_query_31 rfl (lv_at hl 0 rfl) ?_
    replace h := ob h; obtain ⟨w_33, hw_33, h⟩ := h
    replace h := ob h; obtain ⟨cs_32, hv_32, h⟩ := h
    obtain ⟨qk_32, qm_32⟩ := mo_c_X9_read F cs1 y0 cs_32 hv_32
    obtain ⟨k9_32, m9_32⟩ := mo_c_X11_query_b35 F cs_32 u0 y0 cs9 r9 h
    refine cavV (As := []) hx hb hml hts hown hK hP hD hS hG hA (by omega) (by omega) hZ (X := 10) (by decide) rfl (ckE_some hw_33) (sa_X9_read l dC dI cB cI cJ cZ cS cO b K V fz F cs1 y0 cs_32 hv_32) (cw_X11_X9_read hts (fr := 606) (Nat.le_of_ble_eq_true rfl) (Nat.le_of_ble_eq_true rfl)) rfl hl.1 (Nat.le_of_ble_eq_true rfl) ⟨by show kK cs1 - kK cs + (kK cs_32 - kK cs1) ≤ kK cs9 - kK cs; omega, by show kM cs1 - kM cs + (kM cs_32 - kM cs1) ≤ kM cs9 - kM cs; omega⟩ dX11_query_32 (fun H locs hP hD hG hgz hS => ?_)
    refine W_cnt (c2 := kK cs_32 - kK cs) (n2 := kM cs_32 - kM cs) (by omega) (by omega) ?_
    exact B_35 cs_32 u0 y0 h (by omega) (by omega) _ _ _ _ hP hD hG (by omega) hS (lv_sub hl [1, 0] rfl)
  have B_18 : ∀ (cs1 : CS) (u0 : Nat) (y0 : Nat), c_X11_query_b18 F cs1 u0 y0 = some (cs9, r9) → kK cs ≤ kK cs1 → kM cs ≤ kM cs1 → ∀ (Gh H : Heap) (locs : List Loc) (ls : Array Slot), va_P (dC, dI) vwCl (cW cB cI cJ cZ cS cO b cs1) H → va_D A (cW cB cI cJ cZ cS cO b cs1) → va_S A s.heap Gh [] → Gh.size = b + kK cs1 → va_S A Gh H locs → lv_has ls 3 [(0, .ref (b + u0))] → W p l e (headSpec (wsOf yX11_query cX11_query 3 (some .int)) ({ frames := 607, cells := kK cs9 - kK cs, slots := kM cs9 - kM cs, locals := 60 * (607) } : Room)).room s m ([.ref (b + x0)] : List Value).toArray below meth c H locs (kK cs1 - kK cs) (kM cs1 - kM cs) (MQ below (va_Qi (fun (x : Int32) (_ : Unit) => x = r9) (fun _ t_ => va_P (dC, dI) vwCl (cW cB cI cJ cZ cS cO b cs9) t_.heap ∧ va_D A (cW cB cI cJ cZ cS cO b cs9) ∧ b + kK cs9 ≤ t_.heap.size) A) ([.ref (b + x0)] : List Value).toArray s (kK cs9 - kK cs) (kM cs9 - kM cs) A) (F0 m 18 ls [.ref (b + y0)]) := by
    intro cs1 u0 y0 h hmk hmm Gh H locs ls hP hD hG hgz hS hl
    obtain ⟨kb9, mb9⟩ := mo_c_X11_query_b18 F cs1 u0 y0 cs9 r9 h
    unfold c_X11_query_b18 at h
    refine lv_dup hx hb dX11_query_18 rfl ?_
    refine lv_aload_n hx hb dX11_query_19 rfl (lv_at hl 0 rfl) ?_
    replace h := ob h; obtain ⟨v_34, hv_34, h⟩ := h
    refine fg_X11_23 hx hb hts hown hK hP hv_34 dX11_query_20 ?_
    refine lv_aload_n hx hb dX11_query_23 rfl (lv_at hl 0 rfl) ?_
    replace h := ob h; obtain ⟨v_35, hv_35, h⟩ := h
    refine fg_X11_59 hx hb hts hown hK hP hv_35 dX11_query_24 ?_
    replace h := ob h; obtain ⟨i_36, hi_36, h⟩ := h
    subst hi_36
    replace h := ob h; obtain ⟨cs_37, hv_37, h⟩ := h
    obtain ⟨qk_37, qm_37⟩ := mo_c_X9_init F cs1 y0 i_36 v_35 cs_37 hv_37
    obtain ⟨k9_37, m9_37⟩ := mo_c_X11_query_b30 F cs_37 u0 y0 cs9 r9 h
    refine caiV (As := [.ref (b + i_36), .int v_35]) hx hb hml hts hown hK hP hD hS hG hA (by omega) (by omega) hZ (sa_X9_init l dC dI cB cI cJ cZ cS cO b K V fz F cs1 y0 i_36 v_35 cs_37 hv_37) (cw_X11_X9_init hts (fr := 9) (Nat.le_of_ble_eq_true rfl) (Nat.le_of_ble_eq_true rfl)) rfl hl.1 (Nat.le_of_ble_eq_true rfl) ⟨by show kK cs1 - kK cs + (kK cs_37 - kK cs1) ≤ kK cs9 - kK cs; omega, by show kM cs1 - kM cs + (kM cs_37 - kM cs1) ≤ kM cs9 - kM cs; omega⟩ dX11_query_27 (fun H locs hP hD hG hgz hS => ?_)
    refine W_cnt (c2 := kK cs_37 - kK cs) (n2 := kM cs_37 - kM cs) (by omega) (by omega) ?_
    exact B_30 cs_37 u0 y0 h (by omega) (by omega) _ _ _ _ hP hD hG (by omega) hS (lv_sub hl [0] rfl)
  have h := hf
  unfold c_X11_query at h
  refine W_cnt (c2 := kK cs - kK cs) (n2 := kM cs - kM cs) (by omega) (by omega) ?_
  refine lv_aload_n hx hb dX11_query_0 rfl (lv_at hl 0 rfl) ?_
  replace h := ob h; obtain ⟨v_38, hv_38, h⟩ := h
  refine fg_X11_23 hx hb hts hown hK hP hv_38 dX11_query_1 ?_
  refine lv_aload_n hx hb dX11_query_4 rfl (lv_at hl 0 rfl) ?_
  replace h := ob h; obtain ⟨v_39, hv_39, h⟩ := h
  refine fg_X11_9 hx hb hts hown hK hP hv_39 dX11_query_5 ?_
  refine lv_aload_n hx hb dX11_query_8 rfl (lv_at hl 0 rfl) ?_
  replace h := ob h; obtain ⟨v_40, hv_40, h⟩ := h
  refine fg_X11_59 hx hb hts hown hK hP hv_40 dX11_query_9 ?_
  replace h := ob h; obtain ⟨i_42, hi_42, h⟩ := h
  subst hi_42
  replace h := ob h; obtain ⟨w_43, hw_43, h⟩ := h
  replace h := ob h; obtain ⟨cs_41, hv_41, h⟩ := h
  obtain ⟨qk_41, qm_41⟩ := mo_c_X10_scan F cs i_42 x0 v_39 v_40 cs_41 hv_41
  refine cbvV (As := [.ref (b + v_39), .int v_40]) hx hb hml hts hown hK hP hD hS hG hA (by omega) (by omega) hZ (X := 11) (by decide) rfl (ckE_some hw_43) (sc_X10_scan l dC dI cB cI cJ cZ cS cO b K V fz F cs i_42 x0 v_39 v_40 cs_41 hv_41) (cw_X11_X10_scan hts (fr := 9) (Nat.le_of_ble_eq_true rfl) (Nat.le_of_ble_eq_true rfl)) rfl hl.1 (Nat.le_of_ble_eq_true rfl) ⟨by show kK cs - kK cs ≤ kK cs9 - kK cs; omega, by show kM cs - kM cs ≤ kM cs9 - kM cs; omega⟩ dX11_query_12 (fun H locs hP hD hG hgz hS => ?_)
  replace h := ob h; obtain ⟨cs_44, hv_44, h⟩ := h
  obtain ⟨qk_44, qm_44⟩ := nwO_k hv_44
  obtain ⟨k9_44, m9_44⟩ := mo_c_X11_query_b18 F cs_44 x0 (kK cs_41) cs9 r9 h
  refine new_X11_74 hx hb hts hown hK hP hD hS hG hA (by omega) (by omega) ⟨by show kK cs - kK cs + 1 ≤ kK cs9 - kK cs; omega, by show kM cs - kM cs + 12 ≤ kM cs9 - kM cs; omega⟩ hv_44 dX11_query_15 (fun H locs hP hD hG hgz hS => ?_)
  refine W_cnt (c2 := kK cs_44 - kK cs) (n2 := kM cs_44 - kM cs) (by omega) (by omega) ?_
  exact B_18 cs_44 x0 (kK cs_41) h (by omega) (by omega) _ _ _ _ hP hD hG (by omega) hS (lv_sub hl [0] rfl)
