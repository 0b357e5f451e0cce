/-! the class, mirrored -/
theorem dX4_init_0 : decode cX4_init 0 = .ok (.aload_n 0, 1) := by decide +kernel
theorem dX4_init_1 : decode cX4_init 1 = .ok (.invokespecial 3, 3) := by decide +kernel
theorem dX4_init_4 : decode cX4_init 4 = .ok (.aload_n 0, 1) := by decide +kernel
theorem dX4_init_5 : decode cX4_init 5 = .ok (.aload_n 1, 1) := by decide +kernel
theorem dX4_init_6 : decode cX4_init 6 = .ok (.putfield 9, 3) := by decide +kernel
theorem dX4_init_9 : decode cX4_init 9 = .ok (.aload_n 0, 1) := by decide +kernel
theorem dX4_init_10 : decode cX4_init 10 = .ok (.aload_n 2, 1) := by decide +kernel
theorem dX4_init_11 : decode cX4_init 11 = .ok (.putfield 15, 3) := by decide +kernel
theorem dX4_init_14 : decode cX4_init 14 = .ok (.aload_n 0, 1) := by decide +kernel
theorem dX4_init_15 : decode cX4_init 15 = .ok (.aload_n 3, 1) := by decide +kernel
theorem dX4_init_16 : decode cX4_init 16 = .ok (.putfield 19, 3) := by decide +kernel
theorem dX4_init_19 : decode cX4_init 19 = .ok (.return_, 1) := by decide +kernel
def c_X4_init (F : Nat) (cs : CS) (x0 : Nat) (x1 : Nat) (x2 : Nat) (x3 : Nat) : Option CS := Option.bind (pR cs 5 160 x0 (some x1)) fun cs_1 => Option.bind (pR cs_1 5 161 x0 (some x2)) fun cs_2 => Option.bind (pR cs_2 5 162 x0 (some x3)) fun cs_3 => some cs_3
theorem cw_X11_X4_init {R : Room} {s : State} {args : Array Value} {y0 : MethodName} {c0 : ByteArray} {n0 : Nat} {r0 : Option FieldType} (hts : ∀ w ∈ wsOf y0 c0 n0 r0, w.before args s = true) {fr mc ms : Nat} (h1 : fr + 1 ≤ R.frames) (h2 : 8 + (4 + 11) + 60 * fr ≤ R.locals) : CallB R s args RX11 116 yX4_init cX4_init 4 none (wsOf yX4_init cX4_init 4 none) ({ frames := fr, cells := mc, slots := ms, locals := 60 * fr } : Room) mc ms 3 ∧ yX4_init.name = "<init>" ∧ (Cond.instanceMethod yX4_init).before args s = true := cwI 3 hts (gd_all (in_I kc_X4_init)) rfl rfl rfl (hts _ (List.mem_cons_of_mem _ kw_206)) (hts _ (List.mem_cons_of_mem _ kw_1311)) (hts _ (List.mem_cons_of_mem _ kw_1312)) rfl (by decide +kernel) ⟨h1, h2⟩
set_option maxHeartbeats 4000000 in
set_option maxRecDepth 100000 in
theorem sc_X4_init (l : Launch) (dC : Nat → ClassId) (dI : Nat → Nat → Nat) (cB cI cJ cZ cS cO : ClassId) (b : Nat) (K V : Nat → Nat) (fz : Value) (F : Nat) (cs : CS) (x0 : Nat) (x1 : Nat) (x2 : Nat) (x3 : Nat) (cs9 : CS) (hf : c_X4_init F cs x0 x1 x2 x3 = some cs9) : ocV l dC dI cB cI cJ cZ cS cO b K V fz yX4_init (wsOf yX4_init cX4_init 4 none) (1) [.ref (b + x0), .ref (b + x1), .ref (b + x2), .ref (b + x3)] cs cs9 := by
  intro sz
  refine Met.ofW (cc := cX4_init) (maxL := 4) (ret := none) (by decide) rfl ?_
  intro p e s m args below meth c s₁ B hml hv
  obtain ⟨rfl, hsz, hP, hK, hD0, hZ⟩ := hv
  have hx := B.exec
  have hb := B.bytes
  have hr := B.returns
  have hts := atoms_spec (ws := (wsOf yX4_init cX4_init 4 none)) B.pre
  have hown : s.vm.findClass RX4 = some m.cls := findClass_of_methodNamed B.named
  have hin : meth.name = "<init>" := (name_of_methodNamed B.named B.method).1
  have hlocks := B.notSynchronized
  subst hsz
  have hD := hD0.self (sz := s.heap.size)
  generalize hAe : va_A (cW cB cI cJ cZ cS cO b cs) s.heap.size = A at hD hZ ⊢
  have hA : ∀ q : Nat, s.heap.size ≤ q → A q := fun q h => by rw [← hAe]; exact Or.inr h
  have hS : va_S A s.heap s.heap [] := va_S.rf
  have hl := lv_entry ([.ref (b + x0), .ref (b + x1), .ref (b + x2), .ref (b + x3)]) (n := 4) (Nat.le_of_ble_eq_true rfl)
  rw [lg_entry_eq]
  generalize (lg_sl ([.ref (b + x0), .ref (b + x1), .ref (b + x2), .ref (b + x3)]) ++ List.replicate (4 - (lg_sl ([.ref (b + x0), .ref (b + x1), .ref (b + x2), .ref (b + x3)])).length) Slot.unset).toArray = ls at hl ⊢
  have hl : lv_has ls 4 [(0, .ref (b + x0)), (1, .ref (b + x1)), (2, .ref (b + x2)), (3, .ref (b + x3))] := hl
  have h := hf
  unfold c_X4_init at h
  refine lv_aload_n hx hb dX4_init_0 rfl (lv_at hl 0 rfl) ?_
  refine W.objInit hx hb hown (hts _ (List.mem_cons_of_mem _ kw_1314)) (hts _ (List.mem_cons_of_mem _ kw_214)) (hts _ (List.mem_cons_of_mem _ kc_objectInit)) rfl (by rw [hml]; exact hl.1) rfl dX4_init_1 (Nat.le_of_ble_eq_true rfl) (Nat.le_of_ble_eq_true rfl) ?_
  refine W.eq (g2 := F0 m 4 ls []) rfl ?_
  refine lv_aload_n hx hb dX4_init_4 rfl (lv_at hl 0 rfl) ?_
  refine lv_aload_n hx hb dX4_init_5 rfl (lv_at hl 1 rfl) ?_
  replace h := ob h; obtain ⟨cs_1, hv_1, h⟩ := h
  refine fp_X4_9 (v := (some x1)) hx hb hts hown hK hP hD hS hin hv_1 dX4_init_6 (fun H locs hP hD hS => ?_)
  refine lv_aload_n hx hb dX4_init_9 rfl (lv_at hl 0 rfl) ?_
  refine lv_aload_n hx hb dX4_init_10 rfl (lv_at hl 2 rfl) ?_
  replace h := ob h; obtain ⟨cs_2, hv_2, h⟩ := h
  refine fp_X4_15 (v := (some x2)) hx hb hts hown hK hP hD hS hin hv_2 dX4_init_11 (fun H locs hP hD hS => ?_)
  refine lv_aload_n hx hb dX4_init_14 rfl (lv_at hl 0 rfl) ?_
  refine lv_aload_n hx hb dX4_init_15 rfl (lv_at hl 3 rfl) ?_
  replace h := ob h; obtain ⟨cs_3, hv_3, h⟩ := h
  refine fp_X4_19 (v := (some x3)) hx hb hts hown hK hP hD hS hin hv_3 dX4_init_16 (fun H locs hP hD hS => ?_)
  have e1 := Option.some.inj h
  rw [e1] at hP hD
  exact W.vret hx hb hr (fun t_ ht hW => ⟨⟨(), rfl, trivial, by rw [ht]; exact hP, hD⟩, hS.F ht⟩) hS.2.2 dX4_init_19
theorem dX4_foldOne_0 : decode cX4_foldOne 0 = .ok (.lconst 0, 1) := by decide +kernel
theorem dX4_foldOne_1 : decode cX4_foldOne 1 = .ok (.lstore 6, 2) := by decide +kernel
theorem dX4_foldOne_3 : decode cX4_foldOne 3 = .ok (.lconst 0, 1) := by decide +kernel
theorem dX4_foldOne_4 : decode cX4_foldOne 4 = .ok (.lstore 8, 2) := by decide +kernel
theorem dX4_foldOne_6 : decode cX4_foldOne 6 = .ok (.ldc2_w 257, 3) := by decide +kernel
theorem dX4_foldOne_9 : decode cX4_foldOne 9 = .ok (.lstore 10, 2) := by decide +kernel
theorem dX4_foldOne_11 : decode cX4_foldOne 11 = .ok (.ldc2_w 259, 3) := by decide +kernel
theorem dX4_foldOne_14 : decode cX4_foldOne 14 = .ok (.lstore 12, 2) := by decide +kernel
theorem dX4_foldOne_16 : decode cX4_foldOne 16 = .ok (.iconst 0, 1) := by decide +kernel
theorem dX4_foldOne_17 : decode cX4_foldOne 17 = .ok (.istore 14, 2) := by decide +kernel
theorem dX4_foldOne_19 : decode cX4_foldOne 19 = .ok (.iload 14, 2) := by decide +kernel
theorem dX4_foldOne_21 : decode cX4_foldOne 21 = .ok (.iload_n 3, 1) := by decide +kernel
theorem dX4_foldOne_22 : decode cX4_foldOne 22 = .ok (.if_icmp .ge 73, 3) := by decide +kernel
theorem dX4_foldOne_25 : decode cX4_foldOne 25 = .ok (.aload_n 0, 1) := by decide +kernel
theorem dX4_foldOne_26 : decode cX4_foldOne 26 = .ok (.getfield 19, 3) := by decide +kernel
theorem dX4_foldOne_29 : decode cX4_foldOne 29 = .ok (.iload_n 2, 1) := by decide +kernel
theorem dX4_foldOne_30 : decode cX4_foldOne 30 = .ok (.iload 14, 2) := by decide +kernel
theorem dX4_foldOne_32 : decode cX4_foldOne 32 = .ok (.iload 4, 2) := by decide +kernel
theorem dX4_foldOne_34 : decode cX4_foldOne 34 = .ok (.imul, 1) := by decide +kernel
theorem dX4_foldOne_35 : decode cX4_foldOne 35 = .ok (.iadd, 1) := by decide +kernel
theorem dX4_foldOne_36 : decode cX4_foldOne 36 = .ok (.invokevirtual 261, 3) := by decide +kernel
theorem dX4_foldOne_39 : decode cX4_foldOne 39 = .ok (.ifCond .ne 50, 3) := by decide +kernel
theorem dX4_foldOne_42 : decode cX4_foldOne 42 = .ok (.aload_n 0, 1) := by decide +kernel
theorem dX4_foldOne_43 : decode cX4_foldOne 43 = .ok (.getfield 19, 3) := by decide +kernel
theorem dX4_foldOne_46 : decode cX4_foldOne 46 = .ok (.iload_n 2, 1) := by decide +kernel
theorem dX4_foldOne_47 : decode cX4_foldOne 47 = .ok (.iload 14, 2) := by decide +kernel
theorem dX4_foldOne_49 : decode cX4_foldOne 49 = .ok (.iload 4, 2) := by decide +kernel
theorem dX4_foldOne_51 : decode cX4_foldOne 51 = .ok (.imul, 1) := by decide +kernel
theorem dX4_foldOne_52 : decode cX4_foldOne 52 = .ok (.iadd, 1) := by decide +kernel
theorem dX4_foldOne_53 : decode cX4_foldOne 53 = .ok (.invokevirtual 264, 3) := by decide +kernel
theorem dX4_foldOne_56 : decode cX4_foldOne 56 = .ok (.lstore 15, 2) := by decide +kernel
theorem dX4_foldOne_58 : decode cX4_foldOne 58 = .ok (.lload 6, 2) := by decide +kernel
theorem dX4_foldOne_60 : decode cX4_foldOne 60 = .ok (.lconst 1, 1) := by decide +kernel
theorem dX4_foldOne_61 : decode cX4_foldOne 61 = .ok (.ladd, 1) := by decide +kernel
theorem dX4_foldOne_62 : decode cX4_foldOne 62 = .ok (.lstore 6, 2) := by decide +kernel
theorem dX4_foldOne_64 : decode cX4_foldOne 64 = .ok (.lload 8, 2) := by decide +kernel
theorem dX4_foldOne_66 : decode cX4_foldOne 66 = .ok (.lload 15, 2) := by decide +kernel
theorem dX4_foldOne_68 : decode cX4_foldOne 68 = .ok (.ladd, 1) := by decide +kernel
theorem dX4_foldOne_69 : decode cX4_foldOne 69 = .ok (.lstore 8, 2) := by decide +kernel
theorem dX4_foldOne_71 : decode cX4_foldOne 71 = .ok (.lload 10, 2) := by decide +kernel
theorem dX4_foldOne_73 : decode cX4_foldOne 73 = .ok (.lload 15, 2) := by decide +kernel
theorem dX4_foldOne_75 : decode cX4_foldOne 75 = .ok (.invokestatic 268, 3) := by decide +kernel
theorem dX4_foldOne_78 : decode cX4_foldOne 78 = .ok (.lstore 10, 2) := by decide +kernel
theorem dX4_foldOne_80 : decode cX4_foldOne 80 = .ok (.lload 12, 2) := by decide +kernel
theorem dX4_foldOne_82 : decode cX4_foldOne 82 = .ok (.lload 15, 2) := by decide +kernel
theorem dX4_foldOne_84 : decode cX4_foldOne 84 = .ok (.invokestatic 271, 3) := by decide +kernel
theorem dX4_foldOne_87 : decode cX4_foldOne 87 = .ok (.lstore 12, 2) := by decide +kernel
theorem dX4_foldOne_89 : decode cX4_foldOne 89 = .ok (.iinc 14 1, 3) := by decide +kernel
theorem dX4_foldOne_92 : decode cX4_foldOne 92 = .ok (.goto (-73), 3) := by decide +kernel
theorem dX4_foldOne_95 : decode cX4_foldOne 95 = .ok (.iload_n 1, 1) := by decide +kernel
theorem dX4_foldOne_96 : decode cX4_foldOne 96 = .ok (.bipush 32, 2) := by decide +kernel
theorem dX4_foldOne_98 : decode cX4_foldOne 98 = .ok (.if_icmp .eq 9, 3) := by decide +kernel
theorem dX4_foldOne_101 : decode cX4_foldOne 101 = .ok (.iload_n 1, 1) := by decide +kernel
theorem dX4_foldOne_102 : decode cX4_foldOne 102 = .ok (.bipush 61, 2) := by decide +kernel
theorem dX4_foldOne_104 : decode cX4_foldOne 104 = .ok (.if_icmp .ne 18, 3) := by decide +kernel
theorem dX4_foldOne_107 : decode cX4_foldOne 107 = .ok (.aload_n 0, 1) := by decide +kernel
theorem dX4_foldOne_108 : decode cX4_foldOne 108 = .ok (.getfield 19, 3) := by decide +kernel
theorem dX4_foldOne_111 : decode cX4_foldOne 111 = .ok (.iload 5, 2) := by decide +kernel
theorem dX4_foldOne_113 : decode cX4_foldOne 113 = .ok (.lload 6, 2) := by decide +kernel
theorem dX4_foldOne_115 : decode cX4_foldOne 115 = .ok (.iconst 0, 1) := by decide +kernel
theorem dX4_foldOne_116 : decode cX4_foldOne 116 = .ok (.invokevirtual 273, 3) := by decide +kernel
theorem dX4_foldOne_119 : decode cX4_foldOne 119 = .ok (.goto 52, 3) := by decide +kernel
theorem dX4_foldOne_122 : decode cX4_foldOne 122 = .ok (.iload_n 1, 1) := by decide +kernel
theorem dX4_foldOne_123 : decode cX4_foldOne 123 = .ok (.bipush 33, 2) := by decide +kernel
theorem dX4_foldOne_125 : decode cX4_foldOne 125 = .ok (.if_icmp .ne 8, 3) := by decide +kernel
theorem dX4_foldOne_128 : decode cX4_foldOne 128 = .ok (.lload 8, 2) := by decide +kernel
theorem dX4_foldOne_130 : decode cX4_foldOne 130 = .ok (.goto 16, 3) := by decide +kernel
theorem dX4_foldOne_133 : decode cX4_foldOne 133 = .ok (.iload_n 1, 1) := by decide +kernel
theorem dX4_foldOne_134 : decode cX4_foldOne 134 = .ok (.bipush 34, 2) := by decide +kernel
theorem dX4_foldOne_136 : decode cX4_foldOne 136 = .ok (.if_icmp .ne 8, 3) := by decide +kernel
theorem dX4_foldOne_139 : decode cX4_foldOne 139 = .ok (.lload 10, 2) := by decide +kernel
theorem dX4_foldOne_141 : decode cX4_foldOne 141 = .ok (.goto 5, 3) := by decide +kernel
theorem dX4_foldOne_144 : decode cX4_foldOne 144 = .ok (.lload 12, 2) := by decide +kernel
theorem dX4_foldOne_146 : decode cX4_foldOne 146 = .ok (.lstore 14, 2) := by decide +kernel
theorem dX4_foldOne_148 : decode cX4_foldOne 148 = .ok (.aload_n 0, 1) := by decide +kernel
theorem dX4_foldOne_149 : decode cX4_foldOne 149 = .ok (.getfield 19, 3) := by decide +kernel
theorem dX4_foldOne_152 : decode cX4_foldOne 152 = .ok (.iload 5, 2) := by decide +kernel
theorem dX4_foldOne_154 : decode cX4_foldOne 154 = .ok (.lload 14, 2) := by decide +kernel
theorem dX4_foldOne_156 : decode cX4_foldOne 156 = .ok (.lload 6, 2) := by decide +kernel
theorem dX4_foldOne_158 : decode cX4_foldOne 158 = .ok (.lconst 0, 1) := by decide +kernel
theorem dX4_foldOne_159 : decode cX4_foldOne 159 = .ok (.lcmp, 1) := by decide +kernel
theorem dX4_foldOne_160 : decode cX4_foldOne 160 = .ok (.ifCond .ne 7, 3) := by decide +kernel
theorem dX4_foldOne_163 : decode cX4_foldOne 163 = .ok (.iconst 1, 1) := by decide +kernel
theorem dX4_foldOne_164 : decode cX4_foldOne 164 = .ok (.goto 4, 3) := by decide +kernel
theorem dX4_foldOne_167 : decode cX4_foldOne 167 = .ok (.iconst 0, 1) := by decide +kernel
theorem dX4_foldOne_168 : decode cX4_foldOne 168 = .ok (.invokevirtual 273, 3) := by decide +kernel
theorem dX4_foldOne_171 : decode cX4_foldOne 171 = .ok (.return_, 1) := by decide +kernel
def c_X4_foldOne_b171 (F : Nat) (cs1 : CS) : Option CS := some cs1
def c_X4_foldOne_b107 (F : Nat) (cs1 : CS) (u0 : Nat) (u5 : Int32) (u6 : Int64) : Option CS := Option.bind (gR cs1 5 162 u0) fun v_1 => Option.bind (v_1) fun i_3 => Option.bind (ckE cs1 9 i_3) fun _ => Option.bind (c_X8_set F cs1 i_3 u5 u6 0) fun cs_2 => c_X4_foldOne_b171 F cs_2
def c_X4_foldOne_b168 (F : Nat) (cs1 : CS) (y0 : Int32) (y1 : Int64) (y2 : Int32) (y3 : Option Nat) : Option CS := Option.bind (y3) fun i_6 => Option.bind (ckE cs1 9 i_6) fun _ => Option.bind (c_X8_set F cs1 i_6 y2 y1 y0) fun cs_5 => c_X4_foldOne_b171 F cs_5
def c_X4_foldOne_b146 (F : Nat) (cs1 : CS) (u0 : Nat) (u5 : Int32) (u6 : Int64) (y0 : Int64) : Option CS := Option.bind (gR cs1 5 162 u0) fun v_8 => if u6 = 0 then (c_X4_foldOne_b168 F cs1 1 y0 u5 v_8) else (c_X4_foldOne_b168 F cs1 0 y0 u5 v_8)
def c_X4_foldOne_b89 (F : Nat) (rc19 : CS → Nat → Int32 → Int32 → Int32 → Int32 → Int32 → Int64 → Int64 → Int64 → Int64 → Int32 → Option CS) (cs1 : CS) (u0 : Nat) (u1 : Int32) (u2 : Int32) (u3 : Int32) (u4 : Int32) (u5 : Int32) (u6 : Int64) (u8 : Int64) (u10 : Int64) (u12 : Int64) (u14 : Int32) : Option CS := rc19 cs1 u0 u1 u2 u3 u4 u5 u6 u8 u10 u12 (u14 + 1)
def c_X4_foldOne_L19 (F : Nat) : Nat → CS → Nat → Int32 → Int32 → Int32 → Int32 → Int32 → Int64 → Int64 → Int64 → Int64 → Int32 → Option CS
  | 0, _, _, _, _, _, _, _, _, _, _, _, _ => none
  | lf_19 + 1, cs1, u0, u1, u2, u3, u4, u5, u6, u8, u10, u12, u14 => if u3 ≤ u14 then (if u1 = 32 then (c_X4_foldOne_b107 F cs1 u0 u5 u6) else (if u1 = 61 then (c_X4_foldOne_b107 F cs1 u0 u5 u6) else (if u1 = 33 then (c_X4_foldOne_b146 F cs1 u0 u5 u6 u8) else (if u1 = 34 then (c_X4_foldOne_b146 F cs1 u0 u5 u6 u10) else (c_X4_foldOne_b146 F cs1 u0 u5 u6 u12))))) else (Option.bind (gR cs1 5 162 u0) fun v_15 => Option.bind (v_15) fun i_17 => Option.bind (ckE cs1 9 i_17) fun _ => Option.bind (c_X8_isBlank F cs1 i_17 (u2 + (u14 * u4))) fun v_16 => if v_16 = 0 then (Option.bind (gR cs1 5 162 u0) fun v_20 => Option.bind (v_20) fun i_22 => Option.bind (ckE cs1 9 i_22) fun _ => Option.bind (c_X8_valueOf F cs1 i_22 (u2 + (u14 * u4))) fun v_21 => Option.bind (c_J9_min_f86c9 F cs1 u10 v_21) fun v_24 => Option.bind (c_J9_max_f86c9 F cs1 u12 v_21) fun v_25 => c_X4_foldOne_b89 F (c_X4_foldOne_L19 F lf_19) cs1 u0 u1 u2 u3 u4 u5 (u6 + 1) (u8 + v_21) v_24 v_25 u14) else (c_X4_foldOne_b89 F (c_X4_foldOne_L19 F lf_19) cs1 u0 u1 u2 u3 u4 u5 u6 u8 u10 u12 u14))
def c_X4_foldOne (F : Nat) (cs : CS) (x0 : Nat) (x1 : Int32) (x2 : Int32) (x3 : Int32) (x4 : Int32) (x5 : Int32) : Option CS := c_X4_foldOne_L19 F F cs x0 x1 x2 x3 x4 x5 0 0 (9223372036854775807) (-9223372036854775808) 0
theorem cw_X4_X4_foldOne {R : Room} {s : State} {args : Array Value} {y0 : MethodName} {c0 : ByteArray} {n0 : Nat} {r0 : Option FieldType} (hts : ∀ w ∈ wsOf y0 c0 n0 r0, w.before args s = true) {fr : Nat} (h1 : fr + 1 ≤ R.frames) (h2 : 8 + (17 + 11) + 60 * fr ≤ R.locals) : CallW R s args RX4 RX4 251 yX4_foldOne cX4_foldOne 17 none (wsOf yX4_foldOne cX4_foldOne 17 none) ({ frames := fr, cells := 0, slots := 0, locals := 60 * fr } : Room) 0 0 5 := cwV 5 hts (gd_all (in_V kw_1512 kw_1514 kw_85 kw_206 kc_X4_foldOne)) rfl rfl rfl (by decide +kernel) ⟨h1, h2⟩
set_option maxHeartbeats 4000000 in
set_option maxRecDepth 100000 in
theorem sc_X4_foldOne (l : Launch) (dC : Nat → ClassId) (dI : Nat → Nat → Nat) (cB cI cJ cZ cS cO : ClassId) (b : Nat) (K V : Nat → Nat) (fz : Value) (F : Nat) (cs : CS) (x0 : Nat) (x1 : Int32) (x2 : Int32) (x3 : Int32) (x4 : Int32) (x5 : Int32) (cs9 : CS) (hf : c_X4_foldOne F cs x0 x1 x2 x3 x4 x5 = some cs9) : ocV l dC dI cB cI cJ cZ cS cO b K V fz yX4_foldOne (wsOf yX4_foldOne cX4_foldOne 17 none) (2) [.ref (b + x0), .int x1, .int x2, .int x3, .int x4, .int x5] cs cs9 := by
  intro sz
  refine Met.ofW (cc := cX4_foldOne) (maxL := 17) (ret := none) (by decide) rfl ?_
  intro p e s m args below meth c s₁ B hml hv
  obtain ⟨rfl, hsz, hP, hK, hD0, hZ⟩ := hv
  have hx := B.exec
  have hb := B.bytes
  have hr := B.returns
  have hts := atoms_spec (ws := (wsOf yX4_foldOne cX4_foldOne 17 none)) B.pre
  have hown : s.vm.findClass RX4 = some m.cls := findClass_of_methodNamed B.named
  have hlocks := B.notSynchronized
  subst hsz
  have hD := hD0.self (sz := s.heap.size)
  generalize hAe : va_A (cW cB cI cJ cZ cS cO b cs) s.heap.size = A at hD hZ ⊢
  have hA : ∀ q : Nat, s.heap.size ≤ q → A q := fun q h => by rw [← hAe]; exact Or.inr h
  have hS : va_S A s.heap s.heap [] := va_S.rf
  have hl := lv_entry ([.ref (b + x0), .int x1, .int x2, .int x3, .int x4, .int x5]) (n := 17) (Nat.le_of_ble_eq_true rfl)
  rw [lg_entry_eq]
  generalize (lg_sl ([.ref (b + x0), .int x1, .int x2, .int x3, .int x4, .int x5]) ++ List.replicate (17 - (lg_sl ([.ref (b + x0), .int x1, .int x2, .int x3, .int x4, .int x5])).length) Slot.unset).toArray = ls at hl ⊢
  have hl : lv_has ls 17 [(0, .ref (b + x0)), (1, .int x1), (2, .int x2), (3, .int x3), (4, .int x4), (5, .int x5)] := hl
  have B_171 : ∀ (cs1 : CS) , c_X4_foldOne_b171 F cs1 = some cs9 → ∀ (H : Heap) (locs : List Loc) (ls : Array Slot), va_P (dC, dI) vwCl (cW cB cI cJ cZ cS cO b cs1) H → va_D A (cW cB cI cJ cZ cS cO b cs1) → va_S A s.heap H locs → lv_has ls 17 [] → W p l e (headSpec (wsOf yX4_foldOne cX4_foldOne 17 none) ({ frames := 2, cells := 0, slots := 0, locals := 60 * (2) } : Room)).room s m ([.ref (b + x0), .int x1, .int x2, .int x3, .int x4, .int x5] : List Value).toArray below meth c H locs 0 0 (MQ below (va_Qv (fun (_ : Unit) => True) (fun _ t_ => va_P (dC, dI) vwCl (cW cB cI cJ cZ cS cO b cs9) t_.heap ∧ va_D A (cW cB cI cJ cZ cS cO b cs9)) A) ([.ref (b + x0), .int x1, .int x2, .int x3, .int x4, .int x5] : List Value).toArray s 0 0 A) (F0 m 171 ls []) := by
    intro cs1  h H locs ls hP hD hS hl
    unfold c_X4_foldOne_b171 at h
    have e1 := Option.some.inj h
    rw [e1] at hP hD
    exact W.vret hx hb hr (fun t_ ht hW => ⟨⟨(), rfl, trivial, by rw [ht]; exact hP, hD⟩, hS.F ht⟩) hS.2.2 dX4_foldOne_171
  have B_107 : ∀ (cs1 : CS) (u0 : Nat) (u5 : Int32) (u6 : Int64), c_X4_foldOne_b107 F cs1 u0 u5 u6 = some cs9 → ∀ (H : Heap) (locs : List Loc) (ls : Array Slot), va_P (dC, dI) vwCl (cW cB cI cJ cZ cS cO b cs1) H → va_D A (cW cB cI cJ cZ cS cO b cs1) → va_S A s.heap H locs → lv_has ls 17 [(0, .ref (b + u0)), (5, .int u5), (6, .long u6)] → W p l e (headSpec (wsOf yX4_foldOne cX4_foldOne 17 none) ({ frames := 2, cells := 0, slots := 0, locals := 60 * (2) } : Room)).room s m ([.ref (b + x0), .int x1, .int x2, .int x3, .int x4, .int x5] : List Value).toArray below meth c H locs 0 0 (MQ below (va_Qv (fun (_ : Unit) => True) (fun _ t_ => va_P (dC, dI) vwCl (cW cB cI cJ cZ cS cO b cs9) t_.heap ∧ va_D A (cW cB cI cJ cZ cS cO b cs9)) A) ([.ref (b + x0), .int x1, .int x2, .int x3, .int x4, .int x5] : List Value).toArray s 0 0 A) (F0 m 107 ls []) := by
    intro cs1 u0 u5 u6 h H locs ls hP hD hS hl
    unfold c_X4_foldOne_b107 at h
    refine lv_aload_n hx hb dX4_foldOne_107 rfl (lv_at hl 0 rfl) ?_
    replace h := ob h; obtain ⟨v_1, hv_1, h⟩ := h
    refine fg_X4_19 hx hb hts hown hK hP hv_1 dX4_foldOne_108 ?_
    refine lv_iload hx hb dX4_foldOne_111 (lv_at hl 1 rfl) ?_
    refine lv_lload hx hb dX4_foldOne_113 (lv_at hl 2 rfl) ?_
    refine lv_iconst (v := 0) hx hb dX4_foldOne_115 (by decide) ?_
    replace h := ob h; obtain ⟨i_3, hi_3, h⟩ := h
    subst hi_3
    replace h := ob h; obtain ⟨w_4, hw_4, h⟩ := h
    replace h := ob h; obtain ⟨cs_2, hv_2, h⟩ := h
    refine ccV (As := [.int u5, .long u6, .int 0]) hx hb hml hts hown hK hP hD hS hA hZ (X := 9) (by decide) rfl (ckE_some hw_4) (sc_X8_set l dC dI cB cI cJ cZ cS cO b K V fz F cs1 i_3 u5 u6 0 cs_2 hv_2) (cw_X4_X8_set hts (fr := 1) (Nat.le_of_ble_eq_true rfl) (Nat.le_of_ble_eq_true rfl)) rfl hl.1 (Nat.le_of_ble_eq_true rfl) ⟨Nat.zero_le _, Nat.zero_le _⟩ dX4_foldOne_116 (fun H locs hP hD hS => ?_)
    refine lv_goto (tgt := 171) hx hb dX4_foldOne_119 (by decide) ?_
    exact B_171 cs_2 h _ _ _ hP hD hS (lv_sub hl [] rfl)
  have B_168 : ∀ (cs1 : CS) (y0 : Int32) (y1 : Int64) (y2 : Int32) (y3 : Option Nat), c_X4_foldOne_b168 F cs1 y0 y1 y2 y3 = some cs9 → ∀ (H : Heap) (locs : List Loc) (ls : Array Slot), va_P (dC, dI) vwCl (cW cB cI cJ cZ cS cO b cs1) H → va_D A (cW cB cI cJ cZ cS cO b cs1) → va_S A s.heap H locs → lv_has ls 17 [] → W p l e (headSpec (wsOf yX4_foldOne cX4_foldOne 17 none) ({ frames := 2, cells := 0, slots := 0, locals := 60 * (2) } : Room)).room s m ([.ref (b + x0), .int x1, .int x2, .int x3, .int x4, .int x5] : List Value).toArray below meth c H locs 0 0 (MQ below (va_Qv (fun (_ : Unit) => True) (fun _ t_ => va_P (dC, dI) vwCl (cW cB cI cJ cZ cS cO b cs9) t_.heap ∧ va_D A (cW cB cI cJ cZ cS cO b cs9)) A) ([.ref (b + x0), .int x1, .int x2, .int x3, .int x4, .int x5] : List Value).toArray s 0 0 A) (F0 m 168 ls [.int y0, .long y1, .int y2, rv b y3]) := by
    intro cs1 y0 y1 y2 y3 h H locs ls hP hD hS hl
    unfold c_X4_foldOne_b168 at h
    replace h := ob h; obtain ⟨i_6, hi_6, h⟩ := h
    subst hi_6
    replace h := ob h; obtain ⟨w_7, hw_7, h⟩ := h
    replace h := ob h; obtain ⟨cs_5, hv_5, h⟩ := h
    refine ccV (As := [.int y2, .long y1, .int y0]) hx hb hml hts hown hK hP hD hS hA hZ (X := 9) (by decide) rfl (ckE_some hw_7) (sc_X8_set l dC dI cB cI cJ cZ cS cO b K V fz F cs1 i_6 y2 y1 y0 cs_5 hv_5) (cw_X4_X8_set hts (fr := 1) (Nat.le_of_ble_eq_true rfl) (Nat.le_of_ble_eq_true rfl)) rfl hl.1 (Nat.le_of_ble_eq_true rfl) ⟨Nat.zero_le _, Nat.zero_le _⟩ dX4_foldOne_168 (fun H locs hP hD hS => ?_)
    exact B_171 cs_5 h _ _ _ hP hD hS (lv_sub hl [] rfl)
  have B_146 : ∀ (cs1 : CS) (u0 : Nat) (u5 : Int32) (u6 : Int64) (y0 : Int64), c_X4_foldOne_b146 F cs1 u0 u5 u6 y0 = some cs9 → ∀ (H : Heap) (locs : List Loc) (ls : Array Slot), va_P (dC, dI) vwCl (cW cB cI cJ cZ cS cO b cs1) H → va_D A (cW cB cI cJ cZ cS cO b cs1) → va_S A s.heap H locs → lv_has ls 17 [(0, .ref (b + u0)), (5, .int u5), (6, .long u6)] → W p l e (headSpec (wsOf yX4_foldOne cX4_foldOne 17 none) ({ frames := 2, cells := 0, slots := 0, locals := 60 * (2) } : Room)).room s m ([.ref (b + x0), .int x1, .int x2, .int x3, .int x4, .int x5] : List Value).toArray below meth c H locs 0 0 (MQ below (va_Qv (fun (_ : Unit) => True) (fun _ t_ => va_P (dC, dI) vwCl (cW cB cI cJ cZ cS cO b cs9) t_.heap ∧ va_D A (cW cB cI cJ cZ cS cO b cs9)) A) ([.ref (b + x0), .int x1, .int x2, .int x3, .int x4, .int x5] : List Value).toArray s 0 0 A) (F0 m 146 ls [.long y0]) := by
    intro cs1 u0 u5 u6 y0 h H locs ls hP hD hS hl
    unfold c_X4_foldOne_b146 at h
    refine lv_lstore (lv' := [(14, .long y0), (0, .ref (b + u0)), (5, .int u5), (6, .long u6)]) hx hb dX4_foldOne_146 hl (by decide) rfl (fun ls hl => ?_)
    refine lv_aload_n hx hb dX4_foldOne_148 rfl (lv_at hl 1 rfl) ?_
    replace h := ob h; obtain ⟨v_8, hv_8, h⟩ := h
    refine fg_X4_19 hx hb hts hown hK hP hv_8 dX4_foldOne_149 ?_
    refine lv_iload hx hb dX4_foldOne_152 (lv_at hl 2 rfl) ?_
    refine lv_lload hx hb dX4_foldOne_154 (lv_at hl 0 rfl) ?_
    refine lv_lload hx hb dX4_foldOne_156 (lv_at hl 3 rfl) ?_
    refine lv_lconst (v := 0) hx hb dX4_foldOne_158 (by decide) ?_
    refine W.lcmp hx hb dX4_foldOne_159 ?_
    refine lv_if_ne (tgt := 167) hx hb dX4_foldOne_160 (by decide) (fun c_9 => ?_) (fun c_9 => ?_)
    · skip
      have c_9 : ¬ (u6 = 0) := fun h9 => c_9 ((lg_cmp_eq _ _).mpr h9)
      replace h := (if_neg c_9).symm.trans h
      refine lv_iconst (v := 0) hx hb dX4_foldOne_167 (by decide) ?_
      exact B_168 cs1 0 y0 u5 v_8 h _ _ _ hP hD hS (lv_sub hl [] rfl)
    · skip
      have c_9 : u6 = 0 := (lg_cmp_eq _ _).mp c_9
      replace h := (if_pos c_9).symm.trans h
      refine lv_iconst (v := 1) hx hb dX4_foldOne_163 (by decide) ?_
      refine lv_goto (tgt := 168) hx hb dX4_foldOne_164 (by decide) ?_
      exact B_168 cs1 1 y0 u5 v_8 h _ _ _ hP hD hS (lv_sub hl [] rfl)
  have L_19 : ∀ (lf_19 : Nat), ∀ (cs1 : CS) (u0 : Nat) (u1 : Int32) (u2 : Int32) (u3 : Int32) (u4 : Int32) (u5 : Int32) (u6 : Int64) (u8 : Int64) (u10 : Int64) (u12 : Int64) (u14 : Int32), c_X4_foldOne_L19 F lf_19 cs1 u0 u1 u2 u3 u4 u5 u6 u8 u10 u12 u14 = some cs9 → ∀ (H : Heap) (locs : List Loc) (ls : Array Slot), va_P (dC, dI) vwCl (cW cB cI cJ cZ cS cO b cs1) H → va_D A (cW cB cI cJ cZ cS cO b cs1) → va_S A s.heap H locs → lv_has ls 17 [(0, .ref (b + u0)), (1, .int u1), (2, .int u2), (3, .int u3), (4, .int u4), (5, .int u5), (6, .long u6), (8, .long u8), (10, .long u10), (12, .long u12), (14, .int u14)] → W p l e (headSpec (wsOf yX4_foldOne cX4_foldOne 17 none) ({ frames := 2, cells := 0, slots := 0, locals := 60 * (2) } : Room)).room s m ([.ref (b + x0), .int x1, .int x2, .int x3, .int x4, .int x5] : List Value).toArray below meth c H locs 0 0 (MQ below (va_Qv (fun (_ : Unit) => True) (fun _ t_ => va_P (dC, dI) vwCl (cW cB cI cJ cZ cS cO b cs9) t_.heap ∧ va_D A (cW cB cI cJ cZ cS cO b cs9)) A) ([.ref (b + x0), .int x1, .int x2, .int x3, .int x4, .int x5] : List Value).toArray s 0 0 A) (F0 m 19 ls []) := by
    intro lf_19
    induction lf_19 with
    | zero => intro cs1 u0 u1 u2 u3 u4 u5 u6 u8 u10 u12 u14 h; cases (show (none : Option CS) = _ from h)
    | succ lf_19 ih_19 =>
      have B_89 : ∀ (cs1 : CS) (u0 : Nat) (u1 : Int32) (u2 : Int32) (u3 : Int32) (u4 : Int32) (u5 : Int32) (u6 : Int64) (u8 : Int64) (u10 : Int64) (u12 : Int64) (u14 : Int32), c_X4_foldOne_b89 F (c_X4_foldOne_L19 F lf_19) cs1 u0 u1 u2 u3 u4 u5 u6 u8 u10 u12 u14 = some cs9 → ∀ (H : Heap) (locs : List Loc) (ls : Array Slot), va_P (dC, dI) vwCl (cW cB cI cJ cZ cS cO b cs1) H → va_D A (cW cB cI cJ cZ cS cO b cs1) → va_S A s.heap H locs → lv_has ls 17 [(0, .ref (b + u0)), (1, .int u1), (2, .int u2), (3, .int u3), (4, .int u4), (5, .int u5), (6, .long u6), (8, .long u8), (10, .long u10), (12, .long u12), (14, .int u14)] → W p l e (headSpec (wsOf yX4_foldOne cX4_foldOne 17 none) ({ frames := 2, cells := 0, slots := 0, locals := 60 * (2) } : Room)).room s m ([.ref (b + x0), .int x1, .int x2, .int x3, .int x4, .int x5] : List Value).toArray below meth c H locs 0 0 (MQ below (va_Qv (fun (_ : Unit) => True) (fun _ t_ => va_P (dC, dI) vwCl (cW cB cI cJ cZ cS cO b cs9) t_.heap ∧ va_D A (cW cB cI cJ cZ cS cO b cs9)) A) ([.ref (b + x0), .int x1, .int x2, .int x3, .int x4, .int x5] : List Value).toArray s 0 0 A) (F0 m 89 ls []) := by
        intro cs1 u0 u1 u2 u3 u4 u5 u6 u8 u10 u12 u14 h H locs ls hP hD hS hl
        unfold c_X4_foldOne_b89 at h
        refine lv_iinc (v := u14 + 1) (lv' := [(14, .int (u14 + 1)), (0, .ref (b + u0)), (1, .int u1), (2, .int u2), (3, .int u3), (4, .int u4), (5, .int u5), (6, .long u6), (8, .long u8), (10, .long u10), (12, .long u12)]) hx hb dX4_foldOne_89 hl (k := 10) rfl rfl (by decide) rfl (fun ls hl => ?_)
        refine lv_goto (tgt := 19) hx hb dX4_foldOne_92 (by decide) ?_
        exact ih_19 cs1 u0 u1 u2 u3 u4 u5 u6 u8 u10 u12 (u14 + 1) h _ _ _ hP hD hS (lv_sub hl [1, 2, 3, 4, 5, 6, 7, 8, 9, 10, 0] rfl)
      intro cs1 u0 u1 u2 u3 u4 u5 u6 u8 u10 u12 u14 h H locs ls hP hD hS hl
      rw [c_X4_foldOne_L19] at h
      refine lv_iload hx hb dX4_foldOne_19 (lv_at hl 10 rfl) ?_
      refine lv_iload_n hx hb dX4_foldOne_21 rfl (lv_at hl 3 rfl) ?_
      refine lv_icmp_ge (tgt := 95) hx hb dX4_foldOne_22 (by decide) (fun c_10 => ?_) (fun c_10 => ?_)
      · skip
        replace h := (if_pos c_10).symm.trans h
        refine lv_iload_n hx hb dX4_foldOne_95 rfl (lv_at hl 1 rfl) ?_
        refine lv_bipush (v := 32) hx hb dX4_foldOne_96 (by decide) ?_
        refine lv_icmp_eq (tgt := 107) hx hb dX4_foldOne_98 (by decide) (fun c_11 => ?_) (fun c_11 => ?_)
        · skip
          replace h := (if_pos c_11).symm.trans h
          exact B_107 cs1 u0 u5 u6 h _ _ _ hP hD hS (lv_sub hl [0, 5, 6] rfl)
        · skip
          replace h := (if_neg c_11).symm.trans h
          refine lv_iload_n hx hb dX4_foldOne_101 rfl (lv_at hl 1 rfl) ?_
          refine lv_bipush (v := 61) hx hb dX4_foldOne_102 (by decide) ?_
          refine lv_icmp_ne (tgt := 122) hx hb dX4_foldOne_104 (by decide) (fun c_12 => ?_) (fun c_12 => ?_)
          · skip
            replace h := (if_neg c_12).symm.trans h
            refine lv_iload_n hx hb dX4_foldOne_122 rfl (lv_at hl 1 rfl) ?_
            refine lv_bipush (v := 33) hx hb dX4_foldOne_123 (by decide) ?_
            refine lv_icmp_ne (tgt := 133) hx hb dX4_foldOne_125 (by decide) (fun c_13 => ?_) (fun c_13 => ?_)
            · skip
              replace h := (if_neg c_13).symm.trans h
              refine lv_iload_n hx hb dX4_foldOne_133 rfl (lv_at hl 1 rfl) ?_
              refine lv_bipush (v := 34) hx hb dX4_foldOne_134 (by decide) ?_
              refine lv_icmp_ne (tgt := 144) hx hb dX4_foldOne_136 (by decide) (fun c_14 => ?_) (fun c_14 => ?_)
              · skip
                replace h := (if_neg c_14).symm.trans h
                refine lv_lload hx hb dX4_foldOne_144 (lv_at hl 9 rfl) ?_
                exact B_146 cs1 u0 u5 u6 u12 h _ _ _ hP hD hS (lv_sub hl [0, 5, 6] rfl)
              · skip
                replace h := (if_pos c_14).symm.trans h
                refine lv_lload hx hb dX4_foldOne_139 (lv_at hl 8 rfl) ?_
                refine lv_goto (tgt := 146) hx hb dX4_foldOne_141 (by decide) ?_
                exact B_146 cs1 u0 u5 u6 u10 h _ _ _ hP hD hS (lv_sub hl [0, 5, 6] rfl)
            · skip
              replace h := (if_pos c_13).symm.trans h
              refine lv_lload hx hb dX4_foldOne_128 (lv_at hl 7 rfl) ?_
              refine lv_goto (tgt := 146) hx hb dX4_foldOne_130 (by decide) ?_
              exact B_146 cs1 u0 u5 u6 u8 h _ _ _ hP hD hS (lv_sub hl [0, 5, 6] rfl)
          · skip
            replace h := (if_pos c_12).symm.trans h
            exact B_107 cs1 u0 u5 u6 h _ _ _ hP hD hS (lv_sub hl [0, 5, 6] rfl)
      · skip
        replace h := (if_neg c_10).symm.trans h
        refine lv_aload_n hx hb dX4_foldOne_25 rfl (lv_at hl 0 rfl) ?_
        replace h := ob h; obtain ⟨v_15, hv_15, h⟩ := h
        refine fg_X4_19 hx hb hts hown hK hP hv_15 dX4_foldOne_26 ?_
        refine lv_iload_n hx hb dX4_foldOne_29 rfl (lv_at hl 2 rfl) ?_
        refine lv_iload hx hb dX4_foldOne_30 (lv_at hl 10 rfl) ?_
        refine lv_iload hx hb dX4_foldOne_32 (lv_at hl 4 rfl) ?_
        refine lv_imul hx hb dX4_foldOne_34 ?_
        refine lv_iadd hx hb dX4_foldOne_35 ?_
        replace h := ob h; obtain ⟨i_17, hi_17, h⟩ := h
        subst hi_17
        replace h := ob h; obtain ⟨w_18, hw_18, h⟩ := h
        replace h := ob h; obtain ⟨v_16, hv_16, h⟩ := h
        refine ccI (As := [.int (u2 + (u14 * u4))]) hx hb hml hts hown hK hP hD hS hA hZ (X := 9) (by decide) rfl (ckE_some hw_18) (sc_X8_isBlank l dC dI cB cI cJ cZ cS cO b K V fz F cs1 i_17 (u2 + (u14 * u4)) v_16 hv_16) (cw_X4_X8_isBlank hts (fr := 1) (Nat.le_of_ble_eq_true rfl) (Nat.le_of_ble_eq_true rfl)) rfl hl.1 (Nat.le_of_ble_eq_true rfl) ⟨Nat.zero_le _, Nat.zero_le _⟩ dX4_foldOne_36 (fun H locs hP hD hS => ?_)
        refine lv_if_ne (tgt := 89) hx hb dX4_foldOne_39 (by decide) (fun c_19 => ?_) (fun c_19 => ?_)
        · skip
          replace h := (if_neg c_19).symm.trans h
          exact B_89 cs1 u0 u1 u2 u3 u4 u5 u6 u8 u10 u12 u14 h _ _ _ hP hD hS (lv_sub hl [0, 1, 2, 3, 4, 5, 6, 7, 8, 9, 10] rfl)
        · skip
          replace h := (if_pos c_19).symm.trans h
          refine lv_aload_n hx hb dX4_foldOne_42 rfl (lv_at hl 0 rfl) ?_
          replace h := ob h; obtain ⟨v_20, hv_20, h⟩ := h
          refine fg_X4_19 hx hb hts hown hK hP hv_20 dX4_foldOne_43 ?_
          refine lv_iload_n hx hb dX4_foldOne_46 rfl (lv_at hl 2 rfl) ?_
          refine lv_iload hx hb dX4_foldOne_47 (lv_at hl 10 rfl) ?_
          refine lv_iload hx hb dX4_foldOne_49 (lv_at hl 4 rfl) ?_
          refine lv_imul hx hb dX4_foldOne_51 ?_
          refine lv_iadd hx hb dX4_foldOne_52 ?_
          replace h := ob h; obtain ⟨i_22, hi_22, h⟩ := h
          subst hi_22
          replace h := ob h; obtain ⟨w_23, hw_23, h⟩ := h
          replace h := ob h; obtain ⟨v_21, hv_21, h⟩ := h
          refine ccL (As := [.int (u2 + (u14 * u4))]) hx hb hml hts hown hK hP hD hS hA hZ (X := 9) (by decide) rfl (ckE_some hw_23) (sc_X8_valueOf l dC dI cB cI cJ cZ cS cO b K V fz F cs1 i_22 (u2 + (u14 * u4)) v_21 hv_21) (cw_X4_X8_valueOf hts (fr := 1) (Nat.le_of_ble_eq_true rfl) (Nat.le_of_ble_eq_true rfl)) rfl hl.1 (Nat.le_of_ble_eq_true rfl) ⟨Nat.zero_le _, Nat.zero_le _⟩ dX4_foldOne_53 (fun H locs hP hD hS => ?_)
          refine lv_lstore (lv' := [(15, .long v_21), (0, .ref (b + u0)), (1, .int u1), (2, .int u2), (3, .int u3), (4, .int u4), (5, .int u5), (6, .long u6), (8, .long u8), (10, .long u10), (12, .long u12), (14, .int u14)]) hx hb dX4_foldOne_56 hl (by decide) rfl (fun ls hl => ?_)
          refine lv_lload hx hb dX4_foldOne_58 (lv_at hl 7 rfl) ?_
          refine lv_lconst (v := 1) hx hb dX4_foldOne_60 (by decide) ?_
          refine lv_ladd hx hb dX4_foldOne_61 ?_
          refine lv_lstore (lv' := [(6, .long (u6 + 1)), (15, .long v_21), (0, .ref (b + u0)), (1, .int u1), (2, .int u2), (3, .int u3), (4, .int u4), (5, .int u5), (8, .long u8), (10, .long u10), (12, .long u12), (14, .int u14)]) hx hb dX4_foldOne_62 hl (by decide) rfl (fun ls hl => ?_)
          refine lv_lload hx hb dX4_foldOne_64 (lv_at hl 8 rfl) ?_
          refine lv_lload hx hb dX4_foldOne_66 (lv_at hl 1 rfl) ?_
          refine lv_ladd hx hb dX4_foldOne_68 ?_
          refine lv_lstore (lv' := [(8, .long (u8 + v_21)), (6, .long (u6 + 1)), (15, .long v_21), (0, .ref (b + u0)), (1, .int u1), (2, .int u2), (3, .int u3), (4, .int u4), (5, .int u5), (10, .long u10), (12, .long u12), (14, .int u14)]) hx hb dX4_foldOne_69 hl (by decide) rfl (fun ls hl => ?_)
          refine lv_lload hx hb dX4_foldOne_71 (lv_at hl 9 rfl) ?_
          refine lv_lload hx hb dX4_foldOne_73 (lv_at hl 2 rfl) ?_
          replace h := ob h; obtain ⟨v_24, hv_24, h⟩ := h
          refine ccSL (As := [.long u10, .long v_21]) hx hb hml hts hown hK hP hD hS hA hZ (sc_J9_min_f86c9 l dC dI cB cI cJ cZ cS cO b K V fz F cs1 u10 v_21 v_24 hv_24) (cw_X4_J9_min_f86c9 hts (fr := 0) (Nat.le_of_ble_eq_true rfl) (Nat.le_of_ble_eq_true rfl)) rfl hl.1 (Nat.le_of_ble_eq_true rfl) ⟨Nat.zero_le _, Nat.zero_le _⟩ dX4_foldOne_75 (fun H locs hP hD hS => ?_)
          refine lv_lstore (lv' := [(10, .long v_24), (8, .long (u8 + v_21)), (6, .long (u6 + 1)), (15, .long v_21), (0, .ref (b + u0)), (1, .int u1), (2, .int u2), (3, .int u3), (4, .int u4), (5, .int u5), (12, .long u12), (14, .int u14)]) hx hb dX4_foldOne_78 hl (by decide) rfl (fun ls hl => ?_)
          refine lv_lload hx hb dX4_foldOne_80 (lv_at hl 10 rfl) ?_
          refine lv_lload hx hb dX4_foldOne_82 (lv_at hl 3 rfl) ?_
          replace h := ob h; obtain ⟨v_25, hv_25, h⟩ := h
          refine ccSL (As := [.long u12, .long v_21]) hx hb hml hts hown hK hP hD hS hA hZ (sc_J9_max_f86c9 l dC dI cB cI cJ cZ cS cO b K V fz F cs1 u12 v_21 v_25 hv_25) (cw_X4_J9_max_f86c9 hts (fr := 0) (Nat.le_of_ble_eq_true rfl) (Nat.le_of_ble_eq_true rfl)) rfl hl.1 (Nat.le_of_ble_eq_true rfl) ⟨Nat.zero_le _, Nat.zero_le _⟩ dX4_foldOne_84 (fun H locs hP hD hS => ?_)
          refine lv_lstore (lv' := [(12, .long v_25), (10, .long v_24), (8, .long (u8 + v_21)), (6, .long (u6 + 1)), (15, .long v_21), (0, .ref (b + u0)), (1, .int u1), (2, .int u2), (3, .int u3), (4, .int u4), (5, .int u5), (14, .int u14)]) hx hb dX4_foldOne_87 hl (by decide) rfl (fun ls hl => ?_)
          exact B_89 cs1 u0 u1 u2 u3 u4 u5 (u6 + 1) (u8 + v_21) v_24 v_25 u14 h _ _ _ hP hD hS (lv_sub hl [5, 6, 7, 8, 9, 10, 3, 2, 1, 0, 11] rfl)
  have h := hf
  unfold c_X4_foldOne at h
  refine lv_lconst (v := 0) hx hb dX4_foldOne_0 (by decide) ?_
  refine lv_lstore (lv' := [(6, .long 0), (0, .ref (b + x0)), (1, .int x1), (2, .int x2), (3, .int x3), (4, .int x4), (5, .int x5)]) hx hb dX4_foldOne_1 hl (by decide) rfl (fun ls hl => ?_)
  refine lv_lconst (v := 0) hx hb dX4_foldOne_3 (by decide) ?_
  refine lv_lstore (lv' := [(8, .long 0), (6, .long 0), (0, .ref (b + x0)), (1, .int x1), (2, .int x2), (3, .int x3), (4, .int x4), (5, .int x5)]) hx hb dX4_foldOne_4 hl (by decide) rfl (fun ls hl => ?_)
  refine lv_ldc2 hx hb hown (hts _ (List.mem_cons_of_mem _ kw_1516)) dX4_foldOne_6 ?_
  refine lv_lstore (lv' := [(10, .long (9223372036854775807)), (8, .long 0), (6, .long 0), (0, .ref (b + x0)), (1, .int x1), (2, .int x2), (3, .int x3), (4, .int x4), (5, .int x5)]) hx hb dX4_foldOne_9 hl (by decide) rfl (fun ls hl => ?_)
  refine lv_ldc2 hx hb hown (hts _ (List.mem_cons_of_mem _ kw_1517)) dX4_foldOne_11 ?_
  refine lv_lstore (lv' := [(12, .long (-9223372036854775808)), (10, .long (9223372036854775807)), (8, .long 0), (6, .long 0), (0, .ref (b + x0)), (1, .int x1), (2, .int x2), (3, .int x3), (4, .int x4), (5, .int x5)]) hx hb dX4_foldOne_14 hl (by decide) rfl (fun ls hl => ?_)
  refine lv_iconst (v := 0) hx hb dX4_foldOne_16 (by decide) ?_
  refine lv_istore (lv' := [(14, .int 0), (12, .long (-9223372036854775808)), (10, .long (9223372036854775807)), (8, .long 0), (6, .long 0), (0, .ref (b + x0)), (1, .int x1), (2, .int x2), (3, .int x3), (4, .int x4), (5, .int x5)]) hx hb dX4_foldOne_17 hl (by decide) rfl (fun ls hl => ?_)
  exact L_19 F cs x0 x1 x2 x3 x4 x5 0 0 (9223372036854775807) (-9223372036854775808) 0 h _ _ _ hP hD hS (lv_sub hl [5, 6, 7, 8, 9, 10, 4, 3, 2, 1, 0] rfl)
theorem dX11_takeFour_0 : decode cX11_takeFour 0 = .ok (.bipush 24, 2) := by decide +kernel
theorem dX11_takeFour_2 : decode cX11_takeFour 2 = .ok (.istore_n 2, 1) := by decide +kernel
theorem dX11_takeFour_3 : decode cX11_takeFour 3 = .ok (.iload_n 2, 1) := by decide +kernel
theorem dX11_takeFour_4 : decode cX11_takeFour 4 = .ok (.ifCond .lt 44, 3) := by decide +kernel
theorem dX11_takeFour_7 : decode cX11_takeFour 7 = .ok (.aload_n 0, 1) := by decide +kernel
theorem dX11_takeFour_8 : decode cX11_takeFour 8 = .ok (.getfield 59, 3) := by decide +kernel
theorem dX11_takeFour_11 : decode cX11_takeFour 11 = .ok (.aload_n 0, 1) := by decide +kernel
theorem dX11_takeFour_12 : decode cX11_takeFour 12 = .ok (.getfield 9, 3) := by decide +kernel
theorem dX11_takeFour_15 : decode cX11_takeFour 15 = .ok (.arraylength, 1) := by decide +kernel
theorem dX11_takeFour_16 : decode cX11_takeFour 16 = .ok (.if_icmp .ge 26, 3) := by decide +kernel
theorem dX11_takeFour_19 : decode cX11_takeFour 19 = .ok (.aload_n 0, 1) := by decide +kernel
theorem dX11_takeFour_20 : decode cX11_takeFour 20 = .ok (.getfield 9, 3) := by decide +kernel
theorem dX11_takeFour_23 : decode cX11_takeFour 23 = .ok (.aload_n 0, 1) := by decide +kernel
theorem dX11_takeFour_24 : decode cX11_takeFour 24 = .ok (.getfield 59, 3) := by decide +kernel
theorem dX11_takeFour_27 : decode cX11_takeFour 27 = .ok (.iload_n 1, 1) := by decide +kernel
theorem dX11_takeFour_28 : decode cX11_takeFour 28 = .ok (.iload_n 2, 1) := by decide +kernel
theorem dX11_takeFour_29 : decode cX11_takeFour 29 = .ok (.ishr, 1) := by decide +kernel
theorem dX11_takeFour_30 : decode cX11_takeFour 30 = .ok (.i2b, 1) := by decide +kernel
theorem dX11_takeFour_31 : decode cX11_takeFour 31 = .ok (.bastore, 1) := by decide +kernel
theorem dX11_takeFour_32 : decode cX11_takeFour 32 = .ok (.aload_n 0, 1) := by decide +kernel
theorem dX11_takeFour_33 : decode cX11_takeFour 33 = .ok (.dup, 1) := by decide +kernel
theorem dX11_takeFour_34 : decode cX11_takeFour 34 = .ok (.getfield 59, 3) := by decide +kernel
theorem dX11_takeFour_37 : decode cX11_takeFour 37 = .ok (.iconst 1, 1) := by decide +kernel
theorem dX11_takeFour_38 : decode cX11_takeFour 38 = .ok (.iadd, 1) := by decide +kernel
theorem dX11_takeFour_39 : decode cX11_takeFour 39 = .ok (.putfield 59, 3) := by decide +kernel
theorem dX11_takeFour_42 : decode cX11_takeFour 42 = .ok (.iinc 2 (-8), 3) := by decide +kernel
theorem dX11_takeFour_45 : decode cX11_takeFour 45 = .ok (.goto (-42), 3) := by decide +kernel
theorem dX11_takeFour_48 : decode cX11_takeFour 48 = .ok (.return_, 1) := by decide +kernel
def c_X11_takeFour_b42 (F : Nat) (rc3 : CS → Nat → Int32 → Int32 → Option CS) (cs1 : CS) (u0 : Nat) (u1 : Int32) (u2 : Int32) : Option CS := rc3 cs1 u0 u1 (u2 + (-8))
def c_X11_takeFour_L3 (F : Nat) : Nat → CS → Nat → Int32 → Int32 → Option CS
  | 0, _, _, _, _ => none
  | lf_3 + 1, cs1, u0, u1, u2 => if u2 < 0 then (some cs1) else (Option.bind (gI cs1 12 385 u0) fun v_2 => Option.bind (gA cs1 12 384 u0) fun v_3 => Option.bind (lnA cs1 384 u0 v_3) fun v_4 => if v_4 ≤ v_2 then (c_X11_takeFour_b42 F (c_X11_takeFour_L3 F lf_3) cs1 u0 u1 u2) else (Option.bind (gA cs1 12 384 u0) fun v_6 => Option.bind (gI cs1 12 385 u0) fun v_7 => Option.bind (wA cs1 384 u0 v_6 v_7 (vp_nar .byte ((u1 >>> (u2 &&& 31)).toInt8.toInt32))) fun cs_8 => Option.bind (gI cs_8 12 385 u0) fun v_9 => Option.bind (pI cs_8 12 385 u0 (v_9 + 1)) fun cs_10 => c_X11_takeFour_b42 F (c_X11_takeFour_L3 F lf_3) cs_10 u0 u1 u2))
def c_X11_takeFour (F : Nat) (cs : CS) (x0 : Nat) (x1 : Int32) : Option CS := c_X11_takeFour_L3 F F cs x0 x1 24
theorem cw_X11_X11_takeFour {R : Room} {s : State} {args : Array Value} {y0 : MethodName} {c0 : ByteArray} {n0 : Nat} {r0 : Option FieldType} (hts : ∀ w ∈ wsOf y0 c0 n0 r0, w.before args s = true) {fr : Nat} (h1 : fr + 1 ≤ R.frames) (h2 : 8 + (3 + 11) + 60 * fr ≤ R.locals) : CallW R s args RX11 RX11 63 yX11_takeFour cX11_takeFour 3 none (wsOf yX11_takeFour cX11_takeFour 3 none) ({ frames := fr, cells := 0, slots := 0, locals := 60 * fr } : Room) 0 0 1 := cwV 1 hts (gd_all (in_V kw_481 kw_483 kw_0 kw_181 kc_X11_takeFour)) rfl rfl rfl (by decide +kernel) ⟨h1, h2⟩
set_option maxHeartbeats 4000000 in
set_option maxRecDepth 100000 in
theorem sc_X11_takeFour (l : Launch) (dC : Nat → ClassId) (dI : Nat → Nat → Nat) (cB cI cJ cZ cS cO : ClassId) (b : Nat) (K V : Nat → Nat) (fz : Value) (F : Nat) (cs : CS) (x0 : Nat) (x1 : Int32) (cs9 : CS) (hf : c_X11_takeFour F cs x0 x1 = some cs9) : ocV l dC dI cB cI cJ cZ cS cO b K V fz yX11_takeFour (wsOf yX11_takeFour cX11_takeFour 3 none) (0) [.ref (b + x0), .int x1] cs cs9 := by
  intro sz
  refine Met.ofW (cc := cX11_takeFour) (maxL := 3) (ret := none) (by decide) rfl ?_
  intro p e s m args below meth c s₁ B hml hv
  obtain ⟨rfl, hsz, hP, hK, hD0, hZ⟩ := hv
  have hx := B.exec
  have hb := B.bytes
  have hr := B.returns
  have hts := atoms_spec (ws := (wsOf yX11_takeFour cX11_takeFour 3 none)) B.pre
  have hown : s.vm.findClass RX11 = some m.cls := findClass_of_methodNamed B.named
  have hlocks := B.notSynchronized
  subst hsz
  have hD := hD0.self (sz := s.heap.size)
  generalize hAe : va_A (cW cB cI cJ cZ cS cO b cs) s.heap.size = A at hD hZ ⊢
  have hA : ∀ q : Nat, s.heap.size ≤ q → A q := fun q h => by rw [← hAe]; exact Or.inr h
  have hS : va_S A s.heap s.heap [] := va_S.rf
  have hl := lv_entry ([.ref (b + x0), .int x1]) (n := 3) (Nat.le_of_ble_eq_true rfl)
  rw [lg_entry_eq]
  generalize (lg_sl ([.ref (b + x0), .int x1]) ++ List.replicate (3 - (lg_sl ([.ref (b + x0), .int x1])).length) Slot.unset).toArray = ls at hl ⊢
  have hl : lv_has ls 3 [(0, .ref (b + x0)), (1, .int x1)] := hl
  have L_3 : ∀ (lf_3 : Nat), ∀ (cs1 : CS) (u0 : Nat) (u1 : Int32) (u2 : Int32), c_X11_takeFour_L3 F lf_3 cs1 u0 u1 u2 = some cs9 → ∀ (H : Heap) (locs : List Loc) (ls : Array Slot), va_P (dC, dI) vwCl (cW cB cI cJ cZ cS cO b cs1) H → va_D A (cW cB cI cJ cZ cS cO b cs1) → va_S A s.heap H locs → lv_has ls 3 [(0, .ref (b + u0)), (1, .int u1), (2, .int u2)] → W p l e (headSpec (wsOf yX11_takeFour cX11_takeFour 3 none) ({ frames := 0, cells := 0, slots := 0, locals := 60 * (0) } : Room)).room s m ([.ref (b + x0), .int x1] : List Value).toArray below meth c H locs 0 0 (MQ below (va_Qv (fun (_ : Unit) => True) (fun _ t_ => va_P (dC, dI) vwCl (cW cB cI cJ cZ cS cO b cs9) t_.heap ∧ va_D A (cW cB cI cJ cZ cS cO b cs9)) A) ([.ref (b + x0), .int x1] : List Value).toArray s 0 0 A) (F0 m 3 ls []) := by
    intro lf_3
    induction lf_3 with
    | zero => intro cs1 u0 u1 u2 h; cases (show (none : Option CS) = _ from h)
    | succ lf_3 ih_3 =>
      have B_42 : ∀ (cs1 : CS) (u0 : Nat) (u1 : Int32) (u2 : Int32), c_X11_takeFour_b42 F (c_X11_takeFour_L3 F lf_3) cs1 u0 u1 u2 = some cs9 → ∀ (H : Heap) (locs : List Loc) (ls : Array Slot), va_P (dC, dI) vwCl (cW cB cI cJ cZ cS cO b cs1) H → va_D A (cW cB cI cJ cZ cS cO b cs1) → va_S A s.heap H locs → lv_has ls 3 [(0, .ref (b + u0)), (1, .int u1), (2, .int u2)] → W p l e (headSpec (wsOf yX11_takeFour cX11_takeFour 3 none) ({ frames := 0, cells := 0, slots := 0, locals := 60 * (0) } : Room)).room s m ([.ref (b + x0), .int x1] : List Value).toArray below meth c H locs 0 0 (MQ below (va_Qv (fun (_ : Unit) => True) (fun _ t_ => va_P (dC, dI) vwCl (cW cB cI cJ cZ cS cO b cs9) t_.heap ∧ va_D A (cW cB cI cJ cZ cS cO b cs9)) A) ([.ref (b + x0), .int x1] : List Value).toArray s 0 0 A) (F0 m 42 ls []) := by
        intro cs1 u0 u1 u2 h H locs ls hP hD hS hl
        unfold c_X11_takeFour_b42 at h
        refine lv_iinc (v := u2 + (-8)) (lv' := [(2, .int (u2 + (-8))), (0, .ref (b + u0)), (1, .int u1)]) hx hb dX11_takeFour_42 hl (k := 2) rfl rfl (by decide) rfl (fun ls hl => ?_)
        refine lv_goto (tgt := 3) hx hb dX11_takeFour_45 (by decide) ?_
        exact ih_3 cs1 u0 u1 (u2 + (-8)) h _ _ _ hP hD hS (lv_sub hl [1, 2, 0] rfl)
      intro cs1 u0 u1 u2 h H locs ls hP hD hS hl
      rw [c_X11_takeFour_L3] at h
      refine lv_iload_n hx hb dX11_takeFour_3 rfl (lv_at hl 2 rfl) ?_
      refine lv_if_lt (tgt := 48) hx hb dX11_takeFour_4 (by decide) (fun c_1 => ?_) (fun c_1 => ?_)
      · skip
        replace h := (if_pos c_1).symm.trans h
        have e1 := Option.some.inj h
        rw [e1] at hP hD
        exact W.vret hx hb hr (fun t_ ht hW => ⟨⟨(), rfl, trivial, by rw [ht]; exact hP, hD⟩, hS.F ht⟩) hS.2.2 dX11_takeFour_48
      · skip
        replace h := (if_neg c_1).symm.trans h
        refine lv_aload_n hx hb dX11_takeFour_7 rfl (lv_at hl 0 rfl) ?_
        replace h := ob h; obtain ⟨v_2, hv_2, h⟩ := h
        refine fg_X11_59 hx hb hts hown hK hP hv_2 dX11_takeFour_8 ?_
        refine lv_aload_n hx hb dX11_takeFour_11 rfl (lv_at hl 0 rfl) ?_
        replace h := ob h; obtain ⟨v_3, hv_3, h⟩ := h
        refine fg_X11_9 hx hb hts hown hK hP hv_3 dX11_takeFour_12 ?_
        replace h := ob h; obtain ⟨v_4, hv_4, h⟩ := h
        refine alen1 hx hb hK hP rfl hv_4 dX11_takeFour_15 ?_
        refine lv_icmp_ge (tgt := 42) hx hb dX11_takeFour_16 (by decide) (fun c_5 => ?_) (fun c_5 => ?_)
        · skip
          replace h := (if_pos c_5).symm.trans h
          exact B_42 cs1 u0 u1 u2 h _ _ _ hP hD hS (lv_sub hl [0, 1, 2] rfl)
        · skip
          replace h := (if_neg c_5).symm.trans h
          refine lv_aload_n hx hb dX11_takeFour_19 rfl (lv_at hl 0 rfl) ?_
          replace h := ob h; obtain ⟨v_6, hv_6, h⟩ := h
          refine fg_X11_9 hx hb hts hown hK hP hv_6 dX11_takeFour_20 ?_
          refine lv_aload_n hx hb dX11_takeFour_23 rfl (lv_at hl 0 rfl) ?_
          replace h := ob h; obtain ⟨v_7, hv_7, h⟩ := h
          refine fg_X11_59 hx hb hts hown hK hP hv_7 dX11_takeFour_24 ?_
          refine lv_iload_n hx hb dX11_takeFour_27 rfl (lv_at hl 1 rfl) ?_
          refine lv_iload_n hx hb dX11_takeFour_28 rfl (lv_at hl 2 rfl) ?_
          refine lv_ishr hx hb dX11_takeFour_29 ?_
          refine lv_i2b hx hb dX11_takeFour_30 rfl ?_
          replace h := ob h; obtain ⟨cs_8, hv_8, h⟩ := h
          refine ast1 hx hb hK hP hD hS rfl hv_8 dX11_takeFour_31 (fun H locs hP hD hS => ?_)
          refine lv_aload_n hx hb dX11_takeFour_32 rfl (lv_at hl 0 rfl) ?_
          refine lv_dup hx hb dX11_takeFour_33 rfl ?_
          replace h := ob h; obtain ⟨v_9, hv_9, h⟩ := h
          refine fg_X11_59 hx hb hts hown hK hP hv_9 dX11_takeFour_34 ?_
          refine lv_iconst (v := 1) hx hb dX11_takeFour_37 (by decide) ?_
          refine lv_iadd hx hb dX11_takeFour_38 ?_
          replace h := ob h; obtain ⟨cs_10, hv_10, h⟩ := h
          refine fp_X11_59 hx hb hts hown hK hP hD hS hv_10 dX11_takeFour_39 (fun H locs hP hD hS => ?_)
          exact B_42 cs_10 u0 u1 u2 h _ _ _ hP hD hS (lv_sub hl [0, 1, 2] rfl)
  have h := hf
  unfold c_X11_takeFour at h
  refine lv_bipush (v := 24) hx hb dX11_takeFour_0 (by decide) ?_
  refine lv_istore_n (lv' := [(2, .int 24), (0, .ref (b + x0)), (1, .int x1)]) hx hb dX11_takeFour_2 rfl hl (by decide) rfl (fun ls hl => ?_)
  exact L_3 F cs x0 x1 24 h _ _ _ hP hD hS (lv_sub hl [1, 2, 0] rfl)
theorem dX11_feed_0 : decode cX11_feed 0 = .ok (.aload_n 0, 1) := by decide +kernel
theorem dX11_feed_1 : decode cX11_feed 1 = .ok (.getfield 59, 3) := by decide +kernel
theorem dX11_feed_4 : decode cX11_feed 4 = .ok (.sipush 1980, 3) := by decide +kernel
theorem dX11_feed_7 : decode cX11_feed 7 = .ok (.if_icmp .le 5, 3) := by decide +kernel
theorem dX11_feed_10 : decode cX11_feed 10 = .ok (.iconst (-1), 1) := by decide +kernel
theorem dX11_feed_11 : decode cX11_feed 11 = .ok (.ireturn, 1) := by decide +kernel
theorem dX11_feed_12 : decode cX11_feed 12 = .ok (.aload_n 0, 1) := by decide +kernel
theorem dX11_feed_13 : decode cX11_feed 13 = .ok (.iload_n 1, 1) := by decide +kernel
theorem dX11_feed_14 : decode cX11_feed 14 = .ok (.invokevirtual 63, 3) := by decide +kernel
theorem dX11_feed_17 : decode cX11_feed 17 = .ok (.aload_n 0, 1) := by decide +kernel
theorem dX11_feed_18 : decode cX11_feed 18 = .ok (.iload_n 2, 1) := by decide +kernel
theorem dX11_feed_19 : decode cX11_feed 19 = .ok (.invokevirtual 63, 3) := by decide +kernel
theorem dX11_feed_22 : decode cX11_feed 22 = .ok (.aload_n 0, 1) := by decide +kernel
theorem dX11_feed_23 : decode cX11_feed 23 = .ok (.iload_n 3, 1) := by decide +kernel
theorem dX11_feed_24 : decode cX11_feed 24 = .ok (.invokevirtual 63, 3) := by decide +kernel
theorem dX11_feed_27 : decode cX11_feed 27 = .ok (.aload_n 0, 1) := by decide +kernel
theorem dX11_feed_28 : decode cX11_feed 28 = .ok (.iload 4, 2) := by decide +kernel
theorem dX11_feed_30 : decode cX11_feed 30 = .ok (.invokevirtual 63, 3) := by decide +kernel
theorem dX11_feed_33 : decode cX11_feed 33 = .ok (.aload_n 0, 1) := by decide +kernel
theorem dX11_feed_34 : decode cX11_feed 34 = .ok (.iload 5, 2) := by decide +kernel
theorem dX11_feed_36 : decode cX11_feed 36 = .ok (.invokevirtual 63, 3) := by decide +kernel
theorem dX11_feed_39 : decode cX11_feed 39 = .ok (.aload_n 0, 1) := by decide +kernel
theorem dX11_feed_40 : decode cX11_feed 40 = .ok (.getfield 59, 3) := by decide +kernel
theorem dX11_feed_43 : decode cX11_feed 43 = .ok (.ireturn, 1) := by decide +kernel
def c_X11_feed (F : Nat) (cs : CS) (x0 : Nat) (x1 : Int32) (x2 : Int32) (x3 : Int32) (x4 : Int32) (x5 : Int32) : Option (CS × Int32) := Option.bind (gI cs 12 385 x0) fun v_1 => if v_1 ≤ 1980 then (Option.bind (ckE cs 12 x0) fun _ => Option.bind (c_X11_takeFour F cs x0 x1) fun cs_3 => Option.bind (ckE cs_3 12 x0) fun _ => Option.bind (c_X11_takeFour F cs_3 x0 x2) fun cs_5 => Option.bind (ckE cs_5 12 x0) fun _ => Option.bind (c_X11_takeFour F cs_5 x0 x3) fun cs_7 => Option.bind (ckE cs_7 12 x0) fun _ => Option.bind (c_X11_takeFour F cs_7 x0 x4) fun cs_9 => Option.bind (ckE cs_9 12 x0) fun _ => Option.bind (c_X11_takeFour F cs_9 x0 x5) fun cs_11 => Option.bind (gI cs_11 12 385 x0) fun v_13 => some (cs_11, v_13)) else (some (cs, (-1)))
set_option maxHeartbeats 4000000 in
set_option maxRecDepth 100000 in
theorem sc_X11_feed (l : Launch) (dC : Nat → ClassId) (dI : Nat → Nat → Nat) (cB cI cJ cZ cS cO : ClassId) (b : Nat) (K V : Nat → Nat) (fz : Value) (F : Nat) (cs : CS) (x0 : Nat) (x1 : Int32) (x2 : Int32) (x3 : Int32) (x4 : Int32) (x5 : Int32) (cs9 : CS) (r9 : Int32) (hf : c_X11_feed F cs x0 x1 x2 x3 x4 x5 = some (cs9, r9)) : ocI l dC dI cB cI cJ cZ cS cO b K V fz yX11_feed (wsOf yX11_feed cX11_feed 6 (some .int)) (1) [.ref (b + x0), .int x1, .int x2, .int x3, .int x4, .int x5] cs cs9 r9 := by
  intro sz
  refine Met.ofW (cc := cX11_feed) (maxL := 6) (ret := (some .int)) (by decide) rfl ?_
  intro p e s m args below meth c s₁ B hml hv
  obtain ⟨rfl, hsz, hP, hK, hD0, hZ⟩ := hv
  have hx := B.exec
  have hb := B.bytes
  have hr := B.returns
  have hts := atoms_spec (ws := (wsOf yX11_feed cX11_feed 6 (some .int))) B.pre
  have hown : s.vm.findClass RX11 = some m.cls := findClass_of_methodNamed B.named
  have hlocks := B.notSynchronized
  subst hsz
  have hD := hD0.self (sz := s.heap.size)
  generalize hAe : va_A (cW cB cI cJ cZ cS cO b cs) s.heap.size = A at hD hZ ⊢
  have hA : ∀ q : Nat, s.heap.size ≤ q → A q := fun q h => by rw [← hAe]; exact Or.inr h
  have hS : va_S A s.heap s.heap [] := va_S.rf
  have hl := lv_entry ([.ref (b + x0), .int x1, .int x2, .int x3, .int x4, .int x5]) (n := 6) (Nat.le_of_ble_eq_true rfl)
  rw [lg_entry_eq]
  generalize (lg_sl ([.ref (b + x0), .int x1, .int x2, .int x3, .int x4, .int x5]) ++ List.replicate (6 - (lg_sl ([.ref (b + x0), .int x1, .int x2, .int x3, .int x4, .int x5])).length) Slot.unset).toArray = ls at hl ⊢
  have hl : lv_has ls 6 [(0, .ref (b + x0)), (1, .int x1), (2, .int x2), (3, .int x3), (4, .int x4), (5, .int x5)] := hl
  have h := hf
  unfold c_X11_feed at h
  refine lv_aload_n hx hb dX11_feed_0 rfl (lv_at hl 0 rfl) ?_
  replace h := ob h; obtain ⟨v_1, hv_1, h⟩ := h
  refine fg_X11_59 hx hb hts hown hK hP hv_1 dX11_feed_1 ?_
  refine lv_sipush (v := 1980) hx hb dX11_feed_4 (by decide) ?_
  refine lv_icmp_le (tgt := 12) hx hb dX11_feed_7 (by decide) (fun c_2 => ?_) (fun c_2 => ?_)
  · skip
    replace h := (if_pos c_2).symm.trans h
    refine lv_aload_n hx hb dX11_feed_12 rfl (lv_at hl 0 rfl) ?_
    refine lv_iload_n hx hb dX11_feed_13 rfl (lv_at hl 1 rfl) ?_
    replace h := ob h; obtain ⟨w_4, hw_4, h⟩ := h
    replace h := ob h; obtain ⟨cs_3, hv_3, h⟩ := h
    refine ccV (As := [.int x1]) hx hb hml hts hown hK hP hD hS hA hZ (X := 12) (by decide) rfl (ckE_some hw_4) (sc_X11_takeFour l dC dI cB cI cJ cZ cS cO b K V fz F cs x0 x1 cs_3 hv_3) (cw_X11_X11_takeFour hts (fr := 0) (Nat.le_of_ble_eq_true rfl) (Nat.le_of_ble_eq_true rfl)) rfl hl.1 (Nat.le_of_ble_eq_true rfl) ⟨Nat.zero_le _, Nat.zero_le _⟩ dX11_feed_14 (fun H locs hP hD hS => ?_)
    refine lv_aload_n hx hb dX11_feed_17 rfl (lv_at hl 0 rfl) ?_
    refine lv_iload_n hx hb dX11_feed_18 rfl (lv_at hl 2 rfl) ?_
    replace h := ob h; obtain ⟨w_6, hw_6, h⟩ := h
    replace h := ob h; obtain ⟨cs_5, hv_5, h⟩ := h
    refine ccV (As := [.int x2]) hx hb hml hts hown hK hP hD hS hA hZ (X := 12) (by decide) rfl (ckE_some hw_6) (sc_X11_takeFour l dC dI cB cI cJ cZ cS cO b K V fz F cs_3 x0 x2 cs_5 hv_5) (cw_X11_X11_takeFour hts (fr := 0) (Nat.le_of_ble_eq_true rfl) (Nat.le_of_ble_eq_true rfl)) rfl hl.1 (Nat.le_of_ble_eq_true rfl) ⟨Nat.zero_le _, Nat.zero_le _⟩ dX11_feed_19 (fun H locs hP hD hS => ?_)
    refine lv_aload_n hx hb dX11_feed_22 rfl (lv_at hl 0 rfl) ?_
    refine lv_iload_n hx hb dX11_feed_23 rfl (lv_at hl 3 rfl) ?_
    replace h := ob h; obtain ⟨w_8, hw_8, h⟩ := h
    replace h := ob h; obtain ⟨cs_7, hv_7, h⟩ := h
    refine ccV (As := [.int x3]) hx hb hml hts hown hK hP hD hS hA hZ (X := 12) (by decide) rfl (ckE_some hw_8) (sc_X11_takeFour l dC dI cB cI cJ cZ cS cO b K V fz F cs_5 x0 x3 cs_7 hv_7) (cw_X11_X11_takeFour hts (fr := 0) (Nat.le_of_ble_eq_true rfl) (Nat.le_of_ble_eq_true rfl)) rfl hl.1 (Nat.le_of_ble_eq_true rfl) ⟨Nat.zero_le _, Nat.zero_le _⟩ dX11_feed_24 (fun H locs hP hD hS => ?_)
    refine lv_aload_n hx hb dX11_feed_27 rfl (lv_at hl 0 rfl) ?_
    refine lv_iload hx hb dX11_feed_28 (lv_at hl 4 rfl) ?_
    replace h := ob h; obtain ⟨w_10, hw_10, h⟩ := h
    replace h := ob h; obtain ⟨cs_9, hv_9, h⟩ := h
    refine ccV (As := [.int x4]) hx hb hml hts hown hK hP hD hS hA hZ (X := 12) (by decide) rfl (ckE_some hw_10) (sc_X11_takeFour l dC dI cB cI cJ cZ cS cO b K V fz F cs_7 x0 x4 cs_9 hv_9) (cw_X11_X11_takeFour hts (fr := 0) (Nat.le_of_ble_eq_true rfl) (Nat.le_of_ble_eq_true rfl)) rfl hl.1 (Nat.le_of_ble_eq_true rfl) ⟨Nat.zero_le _, Nat.zero_le _⟩ dX11_feed_30 (fun H locs hP hD hS => ?_)
    refine lv_aload_n hx hb dX11_feed_33 rfl (lv_at hl 0 rfl) ?_
    refine lv_iload hx hb dX11_feed_34 (lv_at hl 5 rfl) ?_
    replace h := ob h; obtain ⟨w_12, hw_12, h⟩ := h
    replace h := ob h; obtain ⟨cs_11, hv_11, h⟩ := h
    refine ccV (As := [.int x5]) hx hb hml hts hown hK hP hD hS hA hZ (X := 12) (by decide) rfl (ckE_some hw_12) (sc_X11_takeFour l dC dI cB cI cJ cZ cS cO b K V fz F cs_9 x0 x5 cs_11 hv_11) (cw_X11_X11_takeFour hts (fr := 0) (Nat.le_of_ble_eq_true rfl) (Nat.le_of_ble_eq_true rfl)) rfl hl.1 (Nat.le_of_ble_eq_true rfl) ⟨Nat.zero_le _, Nat.zero_le _⟩ dX11_feed_36 (fun H locs hP hD hS => ?_)
    refine lv_aload_n hx hb dX11_feed_39 rfl (lv_at hl 0 rfl) ?_
    replace h := ob h; obtain ⟨v_13, hv_13, h⟩ := h
    refine fg_X11_59 hx hb hts hown hK hP hv_13 dX11_feed_40 ?_
    obtain ⟨e1, e2⟩ := Prod.mk.inj (Option.some.inj h)
    rw [e1] at hP hD
    exact W.iret (v := v_13) hx hb hr (fun t_ ht hW => ⟨⟨v_13, (), rfl, e2, by rw [ht]; exact hP, hD⟩, hS.F ht⟩) hS.2.2 dX11_feed_43
  · skip
    replace h := (if_neg c_2).symm.trans h
    refine lv_iconst (v := (-1)) hx hb dX11_feed_10 (by decide) ?_
    obtain ⟨e1, e2⟩ := Prod.mk.inj (Option.some.inj h)
    rw [e1] at hP hD
    exact W.iret (v := (-1)) hx hb hr (fun t_ ht hW => ⟨⟨(-1), (), rfl, e2, by rw [ht]; exact hP, hD⟩, hS.F ht⟩) hS.2.2 dX11_feed_11
theorem dX11_cut_0 : decode cX11_cut 0 = .ok (.iload_n 1, 1) := by decide +kernel
theorem dX11_cut_1 : decode cX11_cut 1 = .ok (.ifCond .lt 11, 3) := by decide +kernel
theorem dX11_cut_4 : decode cX11_cut 4 = .ok (.iload_n 1, 1) := by decide +kernel
theorem dX11_cut_5 : decode cX11_cut 5 = .ok (.aload_n 0, 1) := by decide +kernel
theorem dX11_cut_6 : decode cX11_cut 6 = .ok (.getfield 59, 3) := by decide +kernel
theorem dX11_cut_9 : decode cX11_cut 9 = .ok (.if_icmp .le 5, 3) := by decide +kernel
theorem dX11_cut_12 : decode cX11_cut 12 = .ok (.iconst (-1), 1) := by decide +kernel
theorem dX11_cut_13 : decode cX11_cut 13 = .ok (.ireturn, 1) := by decide +kernel
theorem dX11_cut_14 : decode cX11_cut 14 = .ok (.aload_n 0, 1) := by decide +kernel
theorem dX11_cut_15 : decode cX11_cut 15 = .ok (.getfield 59, 3) := by decide +kernel
theorem dX11_cut_18 : decode cX11_cut 18 = .ok (.iload_n 1, 1) := by decide +kernel
theorem dX11_cut_19 : decode cX11_cut 19 = .ok (.isub, 1) := by decide +kernel
theorem dX11_cut_20 : decode cX11_cut 20 = .ok (.istore_n 2, 1) := by decide +kernel
theorem dX11_cut_21 : decode cX11_cut 21 = .ok (.aload_n 0, 1) := by decide +kernel
theorem dX11_cut_22 : decode cX11_cut 22 = .ok (.iload_n 1, 1) := by decide +kernel
theorem dX11_cut_23 : decode cX11_cut 23 = .ok (.putfield 59, 3) := by decide +kernel
theorem dX11_cut_26 : decode cX11_cut 26 = .ok (.iload_n 2, 1) := by decide +kernel
theorem dX11_cut_27 : decode cX11_cut 27 = .ok (.ireturn, 1) := by decide +kernel
def c_X11_cut_b12 (F : Nat) (cs1 : CS) : Option (CS × Int32) := some (cs1, (-1))
def c_X11_cut (F : Nat) (cs : CS) (x0 : Nat) (x1 : Int32) : Option (CS × Int32) := if x1 < 0 then (c_X11_cut_b12 F cs) else (Option.bind (gI cs 12 385 x0) fun v_2 => if x1 ≤ v_2 then (Option.bind (gI cs 12 385 x0) fun v_4 => Option.bind (pI cs 12 385 x0 x1) fun cs_5 => some (cs_5, v_4 - x1)) else (c_X11_cut_b12 F cs))
set_option maxHeartbeats 4000000 in
set_option maxRecDepth 100000 in
theorem sc_X11_cut (l : Launch) (dC : Nat → ClassId) (dI : Nat → Nat → Nat) (cB cI cJ cZ cS cO : ClassId) (b : Nat) (K V : Nat → Nat) (fz : Value) (F : Nat) (cs : CS) (x0 : Nat) (x1 : Int32) (cs9 : CS) (r9 : Int32) (hf : c_X11_cut F cs x0 x1 = some (cs9, r9)) : ocI l dC dI cB cI cJ cZ cS cO b K V fz yX11_cut (wsOf yX11_cut cX11_cut 3 (some .int)) (0) [.ref (b + x0), .int x1] cs cs9 r9 := by
  intro sz
  refine Met.ofW (cc := cX11_cut) (maxL := 3) (ret := (some .int)) (by decide) rfl ?_
  intro p e s m args below meth c s₁ B hml hv
  obtain ⟨rfl, hsz, hP, hK, hD0, hZ⟩ := hv
  have hx := B.exec
  have hb := B.bytes
  have hr := B.returns
  have hts := atoms_spec (ws := (wsOf yX11_cut cX11_cut 3 (some .int))) B.pre
  have hown : s.vm.findClass RX11 = some m.cls := findClass_of_methodNamed B.named
  have hlocks := B.notSynchronized
  subst hsz
  have hD := hD0.self (sz := s.heap.size)
  generalize hAe : va_A (cW cB cI cJ cZ cS cO b cs) s.heap.size = A at hD hZ ⊢
  have hA : ∀ q : Nat, s.heap.size ≤ q → A q := fun q h => by rw [← hAe]; exact Or.inr h
  have hS : va_S A s.heap s.heap [] := va_S.rf
  have hl := lv_entry ([.ref (b + x0), .int x1]) (n := 3) (Nat.le_of_ble_eq_true rfl)
  rw [lg_entry_eq]
  generalize (lg_sl ([.ref (b + x0), .int x1]) ++ List.replicate (3 - (lg_sl ([.ref (b + x0), .int x1])).length) Slot.unset).toArray = ls at hl ⊢
  have hl : lv_has ls 3 [(0, .ref (b + x0)), (1, .int x1)] := hl
  have B_12 : ∀ (cs1 : CS) , c_X11_cut_b12 F cs1 = some (cs9, r9) → ∀ (H : Heap) (locs : List Loc) (ls : Array Slot), va_P (dC, dI) vwCl (cW cB cI cJ cZ cS cO b cs1) H → va_D A (cW cB cI cJ cZ cS cO b cs1) → va_S A s.heap H locs → lv_has ls 3 [] → W p l e (headSpec (wsOf yX11_cut cX11_cut 3 (some .int)) ({ frames := 0, cells := 0, slots := 0, locals := 60 * (0) } : Room)).room s m ([.ref (b + x0), .int x1] : List Value).toArray below meth c H locs 0 0 (MQ below (va_Qi (fun (x : Int32) (_ : Unit) => x = r9) (fun _ t_ => va_P (dC, dI) vwCl (cW cB cI cJ cZ cS cO b cs9) t_.heap ∧ va_D A (cW cB cI cJ cZ cS cO b cs9)) A) ([.ref (b + x0), .int x1] : List Value).toArray s 0 0 A) (F0 m 12 ls []) := by
    intro cs1  h H locs ls hP hD hS hl
    unfold c_X11_cut_b12 at h
    refine lv_iconst (v := (-1)) hx hb dX11_cut_12 (by decide) ?_
    obtain ⟨e1, e2⟩ := Prod.mk.inj (Option.some.inj h)
    rw [e1] at hP hD
    exact W.iret (v := (-1)) hx hb hr (fun t_ ht hW => ⟨⟨(-1), (), rfl, e2, by rw [ht]; exact hP, hD⟩, hS.F ht⟩) hS.2.2 dX11_cut_13
  have h := hf
  unfold c_X11_cut at h
  refine lv_iload_n hx hb dX11_cut_0 rfl (lv_at hl 1 rfl) ?_
  refine lv_if_lt (tgt := 12) hx hb dX11_cut_1 (by decide) (fun c_1 => ?_) (fun c_1 => ?_)
  · skip
    replace h := (if_pos c_1).symm.trans h
    exact B_12 cs h _ _ _ hP hD hS (lv_sub hl [] rfl)
  · skip
    replace h := (if_neg c_1).symm.trans h
    refine lv_iload_n hx hb dX11_cut_4 rfl (lv_at hl 1 rfl) ?_
    refine lv_aload_n hx hb dX11_cut_5 rfl (lv_at hl 0 rfl) ?_
    replace h := ob h; obtain ⟨v_2, hv_2, h⟩ := h
    refine fg_X11_59 hx hb hts hown hK hP hv_2 dX11_cut_6 ?_
    refine lv_icmp_le (tgt := 14) hx hb dX11_cut_9 (by decide) (fun c_3 => ?_) (fun c_3 => ?_)
    · skip
      replace h := (if_pos c_3).symm.trans h
      refine lv_aload_n hx hb dX11_cut_14 rfl (lv_at hl 0 rfl) ?_
      replace h := ob h; obtain ⟨v_4, hv_4, h⟩ := h
      refine fg_X11_59 hx hb hts hown hK hP hv_4 dX11_cut_15 ?_
      refine lv_iload_n hx hb dX11_cut_18 rfl (lv_at hl 1 rfl) ?_
      refine lv_isub hx hb dX11_cut_19 ?_
      refine lv_istore_n (lv' := [(2, .int (v_4 - x1)), (0, .ref (b + x0)), (1, .int x1)]) hx hb dX11_cut_20 rfl hl (by decide) rfl (fun ls hl => ?_)
      refine lv_aload_n hx hb dX11_cut_21 rfl (lv_at hl 1 rfl) ?_
      refine lv_iload_n hx hb dX11_cut_22 rfl (lv_at hl 2 rfl) ?_
      replace h := ob h; obtain ⟨cs_5, hv_5, h⟩ := h
      refine fp_X11_59 hx hb hts hown hK hP hD hS hv_5 dX11_cut_23 (fun H locs hP hD hS => ?_)
      refine lv_iload_n hx hb dX11_cut_26 rfl (lv_at hl 0 rfl) ?_
      obtain ⟨e1, e2⟩ := Prod.mk.inj (Option.some.inj h)
      rw [e1] at hP hD
      exact W.iret (v := v_4 - x1) hx hb hr (fun t_ ht hW => ⟨⟨v_4 - x1, (), rfl, e2, by rw [ht]; exact hP, hD⟩, hS.F ht⟩) hS.2.2 dX11_cut_27
    · skip
      replace h := (if_neg c_3).symm.trans h
      exact B_12 cs h _ _ _ hP hD hS (lv_sub hl [] rfl)
theorem dX11_stream_0 : decode cX11_stream 0 = .ok (.aload_n 0, 1) := by decide +kernel
theorem dX11_stream_1 : decode cX11_stream 1 = .ok (.getfield 16, 3) := by decide +kernel
theorem dX11_stream_4 : decode cX11_stream 4 = .ok (.iload_n 1, 1) := by decide +kernel
theorem dX11_stream_5 : decode cX11_stream 5 = .ok (.invokevirtual 66, 3) := by decide +kernel
theorem dX11_stream_8 : decode cX11_stream 8 = .ok (.ireturn, 1) := by decide +kernel
def c_X11_stream (F : Nat) (cs : CS) (x0 : Nat) (x1 : Int32) : Option (CS × Int32) := Option.bind (gR cs 12 386 x0) fun v_1 => Option.bind (v_1) fun i_3 => Option.bind (ckE cs 8 i_3) fun _ => Option.bind (c_X7_open F cs i_3 x1) fun z_2 => some (z_2.1, z_2.2)
set_option maxHeartbeats 4000000 in
set_option maxRecDepth 100000 in
theorem sc_X11_stream (l : Launch) (dC : Nat → ClassId) (dI : Nat → Nat → Nat) (cB cI cJ cZ cS cO : ClassId) (b : Nat) (K V : Nat → Nat) (fz : Value) (F : Nat) (cs : CS) (x0 : Nat) (x1 : Int32) (cs9 : CS) (r9 : Int32) (hf : c_X11_stream F cs x0 x1 = some (cs9, r9)) : ocI l dC dI cB cI cJ cZ cS cO b K V fz yX11_stream (wsOf yX11_stream cX11_stream 2 (some .int)) (1) [.ref (b + x0), .int x1] cs cs9 r9 := by
  intro sz
  refine Met.ofW (cc := cX11_stream) (maxL := 2) (ret := (some .int)) (by decide) rfl ?_
  intro p e s m args below meth c s₁ B hml hv
  obtain ⟨rfl, hsz, hP, hK, hD0, hZ⟩ := hv
  have hx := B.exec
  have hb := B.bytes
  have hr := B.returns
  have hts := atoms_spec (ws := (wsOf yX11_stream cX11_stream 2 (some .int))) B.pre
  have hown : s.vm.findClass RX11 = some m.cls := findClass_of_methodNamed B.named
  have hlocks := B.notSynchronized
  subst hsz
  have hD := hD0.self (sz := s.heap.size)
  generalize hAe : va_A (cW cB cI cJ cZ cS cO b cs) s.heap.size = A at hD hZ ⊢
  have hA : ∀ q : Nat, s.heap.size ≤ q → A q := fun q h => by rw [← hAe]; exact Or.inr h
  have hS : va_S A s.heap s.heap [] := va_S.rf
  have hl := lv_entry ([.ref (b + x0), .int x1]) (n := 2) (Nat.le_of_ble_eq_true rfl)
  rw [lg_entry_eq]
  generalize (lg_sl ([.ref (b + x0), .int x1]) ++ List.replicate (2 - (lg_sl ([.ref (b + x0), .int x1])).length) Slot.unset).toArray = ls at hl ⊢
  have hl : lv_has ls 2 [(0, .ref (b + x0)), (1, .int x1)] := hl
  have h := hf
  unfold c_X11_stream at h
  refine lv_aload_n hx hb dX11_stream_0 rfl (lv_at hl 0 rfl) ?_
  replace h := ob h; obtain ⟨v_1, hv_1, h⟩ := h
  refine fg_X11_16 hx hb hts hown hK hP hv_1 dX11_stream_1 ?_
  refine lv_iload_n hx hb dX11_stream_4 rfl (lv_at hl 1 rfl) ?_
  replace h := ob h; obtain ⟨i_3, hi_3, h⟩ := h
  subst hi_3
  replace h := ob h; obtain ⟨w_4, hw_4, h⟩ := h
  replace h := ob h; obtain ⟨z_2, hv_2, h⟩ := h
  refine ccI (As := [.int x1]) hx hb hml hts hown hK hP hD hS hA hZ (X := 8) (by decide) rfl (ckE_some hw_4) (sc_X7_open l dC dI cB cI cJ cZ cS cO b K V fz F cs i_3 x1 z_2.1 z_2.2 hv_2) (cw_X11_X7_open hts (fr := 0) (Nat.le_of_ble_eq_true rfl) (Nat.le_of_ble_eq_true rfl)) rfl hl.1 (Nat.le_of_ble_eq_true rfl) ⟨Nat.zero_le _, Nat.zero_le _⟩ dX11_stream_5 (fun H locs hP hD hS => ?_)
  obtain ⟨e1, e2⟩ := Prod.mk.inj (Option.some.inj h)
  rw [e1] at hP hD
  exact W.iret (v := z_2.2) hx hb hr (fun t_ ht hW => ⟨⟨z_2.2, (), rfl, e2, by rw [ht]; exact hP, hD⟩, hS.F ht⟩) hS.2.2 dX11_stream_8
theorem dX11_fault_0 : decode cX11_fault 0 = .ok (.aload_n 0, 1) := by decide +kernel
theorem dX11_fault_1 : decode cX11_fault 1 = .ok (.getfield 101, 3) := by decide +kernel
theorem dX11_fault_4 : decode cX11_fault 4 = .ok (.ireturn, 1) := by decide +kernel
def c_X11_fault (F : Nat) (cs : CS) (x0 : Nat) : Option Int32 := Option.bind (gI cs 12 388 x0) fun v_1 => some v_1
set_option maxHeartbeats 4000000 in
set_option maxRecDepth 100000 in
theorem sc_X11_fault (l : Launch) (dC : Nat → ClassId) (dI : Nat → Nat → Nat) (cB cI cJ cZ cS cO : ClassId) (b : Nat) (K V : Nat → Nat) (fz : Value) (F : Nat) (cs : CS) (x0 : Nat) (r9 : Int32) (hf : c_X11_fault F cs x0 = some r9) : ocI l dC dI cB cI cJ cZ cS cO b K V fz yX11_fault (wsOf yX11_fault cX11_fault 1 (some .int)) (0) [.ref (b + x0)] cs cs r9 := by
  intro sz
  refine Met.ofW (cc := cX11_fault) (maxL := 1) (ret := (some .int)) (by decide) rfl ?_
  intro p e s m args below meth c s₁ B hml hv
  obtain ⟨rfl, hsz, hP, hK, hD0, hZ⟩ := hv
  have hx := B.exec
  have hb := B.bytes
  have hr := B.returns
  have hts := atoms_spec (ws := (wsOf yX11_fault cX11_fault 1 (some .int))) B.pre
  have hown : s.vm.findClass RX11 = some m.cls := findClass_of_methodNamed B.named
  have hlocks := B.notSynchronized
  subst hsz
  have hD := hD0.self (sz := s.heap.size)
  generalize hAe : va_A (cW cB cI cJ cZ cS cO b cs) s.heap.size = A at hD hZ ⊢
  have hA : ∀ q : Nat, s.heap.size ≤ q → A q := fun q h => by rw [← hAe]; exact Or.inr h
  have hS : va_S A s.heap s.heap [] := va_S.rf
  have hl := lv_entry ([.ref (b + x0)]) (n := 1) (Nat.le_of_ble_eq_true rfl)
  rw [lg_entry_eq]
  generalize (lg_sl ([.ref (b + x0)]) ++ List.replicate (1 - (lg_sl ([.ref (b + x0)])).length) Slot.unset).toArray = ls at hl ⊢
  have hl : lv_has ls 1 [(0, .ref (b + x0))] := hl
  have h := hf
  unfold c_X11_fault at h
  refine lv_aload_n hx hb dX11_fault_0 rfl (lv_at hl 0 rfl) ?_
  replace h := ob h; obtain ⟨v_1, hv_1, h⟩ := h
  refine fg_X11_101 hx hb hts hown hK hP hv_1 dX11_fault_1 ?_
  have e2 := Option.some.inj h
  exact W.iret (v := v_1) hx hb hr (fun t_ ht hW => ⟨⟨v_1, (), rfl, e2, by rw [ht]; exact hP, hD⟩, hS.F ht⟩) hS.2.2 dX11_fault_4
theorem dX11_value_0 : decode cX11_value 0 = .ok (.aload_n 0, 1) := by decide +kernel
theorem dX11_value_1 : decode cX11_value 1 = .ok (.getfield 16, 3) := by decide +kernel
theorem dX11_value_4 : decode cX11_value 4 = .ok (.lload_n 1, 1) := by decide +kernel
theorem dX11_value_5 : decode cX11_value 5 = .ok (.iconst 0, 1) := by decide +kernel
theorem dX11_value_6 : decode cX11_value 6 = .ok (.invokevirtual 131, 3) := by decide +kernel
theorem dX11_value_9 : decode cX11_value 9 = .ok (.ireturn, 1) := by decide +kernel
def c_X11_value (F : Nat) (cs : CS) (x0 : Nat) (x1 : Int64) : Option (CS × Int32) := Option.bind (gR cs 12 386 x0) fun v_1 => Option.bind (v_1) fun i_3 => Option.bind (ckE cs 8 i_3) fun _ => Option.bind (c_X7_draft F cs i_3 x1 0) fun z_2 => some (z_2.1, z_2.2)
set_option maxHeartbeats 4000000 in
set_option maxRecDepth 100000 in
theorem sc_X11_value (l : Launch) (dC : Nat → ClassId) (dI : Nat → Nat → Nat) (cB cI cJ cZ cS cO : ClassId) (b : Nat) (K V : Nat → Nat) (fz : Value) (F : Nat) (cs : CS) (x0 : Nat) (x1 : Int64) (cs9 : CS) (r9 : Int32) (hf : c_X11_value F cs x0 x1 = some (cs9, r9)) : ocI l dC dI cB cI cJ cZ cS cO b K V fz yX11_value (wsOf yX11_value cX11_value 3 (some .int)) (1) [.ref (b + x0), .long x1] cs cs9 r9 := by
  intro sz
  refine Met.ofW (cc := cX11_value) (maxL := 3) (ret := (some .int)) (by decide) rfl ?_
  intro p e s m args below meth c s₁ B hml hv
  obtain ⟨rfl, hsz, hP, hK, hD0, hZ⟩ := hv
  have hx := B.exec
  have hb := B.bytes
  have hr := B.returns
  have hts := atoms_spec (ws := (wsOf yX11_value cX11_value 3 (some .int))) B.pre
  have hown : s.vm.findClass RX11 = some m.cls := findClass_of_methodNamed B.named
  have hlocks := B.notSynchronized
  subst hsz
  have hD := hD0.self (sz := s.heap.size)
  generalize hAe : va_A (cW cB cI cJ cZ cS cO b cs) s.heap.size = A at hD hZ ⊢
  have hA : ∀ q : Nat, s.heap.size ≤ q → A q := fun q h => by rw [← hAe]; exact Or.inr h
  have hS : va_S A s.heap s.heap [] := va_S.rf
  have hl := lv_entry ([.ref (b + x0), .long x1]) (n := 3) (Nat.le_of_ble_eq_true rfl)
  rw [lg_entry_eq]
  generalize (lg_sl ([.ref (b + x0), .long x1]) ++ List.replicate (3 - (lg_sl ([.ref (b + x0), .long x1])).length) Slot.unset).toArray = ls at hl ⊢
  have hl : lv_has ls 3 [(0, .ref (b + x0)), (1, .long x1)] := hl
  have h := hf
  unfold c_X11_value at h
  refine lv_aload_n hx hb dX11_value_0 rfl (lv_at hl 0 rfl) ?_
  replace h := ob h; obtain ⟨v_1, hv_1, h⟩ := h
  refine fg_X11_16 hx hb hts hown hK hP hv_1 dX11_value_1 ?_
  refine lv_lload_n hx hb dX11_value_4 rfl (lv_at hl 1 rfl) ?_
  refine lv_iconst (v := 0) hx hb dX11_value_5 (by decide) ?_
  replace h := ob h; obtain ⟨i_3, hi_3, h⟩ := h
  subst hi_3
  replace h := ob h; obtain ⟨w_4, hw_4, h⟩ := h
  replace h := ob h; obtain ⟨z_2, hv_2, h⟩ := h
  refine ccI (As := [.long x1, .int 0]) hx hb hml hts hown hK hP hD hS hA hZ (X := 8) (by decide) rfl (ckE_some hw_4) (sc_X7_draft l dC dI cB cI cJ cZ cS cO b K V fz F cs i_3 x1 0 z_2.1 z_2.2 hv_2) (cw_X11_X7_draft hts (fr := 0) (Nat.le_of_ble_eq_true rfl) (Nat.le_of_ble_eq_true rfl)) rfl hl.1 (Nat.le_of_ble_eq_true rfl) ⟨Nat.zero_le _, Nat.zero_le _⟩ dX11_value_6 (fun H locs hP hD hS => ?_)
  obtain ⟨e1, e2⟩ := Prod.mk.inj (Option.some.inj h)
  rw [e1] at hP hD
  exact W.iret (v := z_2.2) hx hb hr (fun t_ ht hW => ⟨⟨z_2.2, (), rfl, e2, by rw [ht]; exact hP, hD⟩, hS.F ht⟩) hS.2.2 dX11_value_9
theorem dX11_nothing_0 : decode cX11_nothing 0 = .ok (.aload_n 0, 1) := by decide +kernel
theorem dX11_nothing_1 : decode cX11_nothing 1 = .ok (.getfield 16, 3) := by decide +kernel
theorem dX11_nothing_4 : decode cX11_nothing 4 = .ok (.lconst 0, 1) := by decide +kernel
theorem dX11_nothing_5 : decode cX11_nothing 5 = .ok (.iconst 1, 1) := by decide +kernel
theorem dX11_nothing_6 : decode cX11_nothing 6 = .ok (.invokevirtual 131, 3) := by decide +kernel
theorem dX11_nothing_9 : decode cX11_nothing 9 = .ok (.ireturn, 1) := by decide +kernel
def c_X11_nothing (F : Nat) (cs : CS) (x0 : Nat) : Option (CS × Int32) := Option.bind (gR cs 12 386 x0) fun v_1 => Option.bind (v_1) fun i_3 => Option.bind (ckE cs 8 i_3) fun _ => Option.bind (c_X7_draft F cs i_3 0 1) fun z_2 => some (z_2.1, z_2.2)
set_option maxHeartbeats 4000000 in
set_option maxRecDepth 100000 in
theorem sc_X11_nothing (l : Launch) (dC : Nat → ClassId) (dI : Nat → Nat → Nat) (cB cI cJ cZ cS cO : ClassId) (b : Nat) (K V : Nat → Nat) (fz : Value) (F : Nat) (cs : CS) (x0 : Nat) (cs9 : CS) (r9 : Int32) (hf : c_X11_nothing F cs x0 = some (cs9, r9)) : ocI l dC dI cB cI cJ cZ cS cO b K V fz yX11_nothing (wsOf yX11_nothing cX11_nothing 1 (some .int)) (1) [.ref (b + x0)] cs cs9 r9 := by
  intro sz
  refine Met.ofW (cc := cX11_nothing) (maxL := 1) (ret := (some .int)) (by decide) rfl ?_
  intro p e s m args below meth c s₁ B hml hv
  obtain ⟨rfl, hsz, hP, hK, hD0, hZ⟩ := hv
  have hx := B.exec
  have hb := B.bytes
  have hr := B.returns
  have hts := atoms_spec (ws := (wsOf yX11_nothing cX11_nothing 1 (some .int))) B.pre
  have hown : s.vm.findClass RX11 = some m.cls := findClass_of_methodNamed B.named
  have hlocks := B.notSynchronized
  subst hsz
  have hD := hD0.self (sz := s.heap.size)
  generalize hAe : va_A (cW cB cI cJ cZ cS cO b cs) s.heap.size = A at hD hZ ⊢
  have hA : ∀ q : Nat, s.heap.size ≤ q → A q := fun q h => by rw [← hAe]; exact Or.inr h
  have hS : va_S A s.heap s.heap [] := va_S.rf
  have hl := lv_entry ([.ref (b + x0)]) (n := 1) (Nat.le_of_ble_eq_true rfl)
  rw [lg_entry_eq]
  generalize (lg_sl ([.ref (b + x0)]) ++ List.replicate (1 - (lg_sl ([.ref (b + x0)])).length) Slot.unset).toArray = ls at hl ⊢
  have hl : lv_has ls 1 [(0, .ref (b + x0))] := hl
  have h := hf
  unfold c_X11_nothing at h
  refine lv_aload_n hx hb dX11_nothing_0 rfl (lv_at hl 0 rfl) ?_
  replace h := ob h; obtain ⟨v_1, hv_1, h⟩ := h
  refine fg_X11_16 hx hb hts hown hK hP hv_1 dX11_nothing_1 ?_
  refine lv_lconst (v := 0) hx hb dX11_nothing_4 (by decide) ?_
  refine lv_iconst (v := 1) hx hb dX11_nothing_5 (by decide) ?_
  replace h := ob h; obtain ⟨i_3, hi_3, h⟩ := h
  subst hi_3
  replace h := ob h; obtain ⟨w_4, hw_4, h⟩ := h
  replace h := ob h; obtain ⟨z_2, hv_2, h⟩ := h
  refine ccI (As := [.long 0, .int 1]) hx hb hml hts hown hK hP hD hS hA hZ (X := 8) (by decide) rfl (ckE_some hw_4) (sc_X7_draft l dC dI cB cI cJ cZ cS cO b K V fz F cs i_3 0 1 z_2.1 z_2.2 hv_2) (cw_X11_X7_draft hts (fr := 0) (Nat.le_of_ble_eq_true rfl) (Nat.le_of_ble_eq_true rfl)) rfl hl.1 (Nat.le_of_ble_eq_true rfl) ⟨Nat.zero_le _, Nat.zero_le _⟩ dX11_nothing_6 (fun H locs hP hD hS => ?_)
  obtain ⟨e1, e2⟩ := Prod.mk.inj (Option.some.inj h)
  rw [e1] at hP hD
  exact W.iret (v := z_2.2) hx hb hr (fun t_ ht hW => ⟨⟨z_2.2, (), rfl, e2, by rw [ht]; exact hP, hD⟩, hS.F ht⟩) hS.2.2 dX11_nothing_9
theorem dX11_changes_0 : decode cX11_changes 0 = .ok (.aload_n 0, 1) := by decide +kernel
theorem dX11_changes_1 : decode cX11_changes 1 = .ok (.getfield 98, 3) := by decide +kernel
theorem dX11_changes_4 : decode cX11_changes 4 = .ok (.ireturn, 1) := by decide +kernel
def c_X11_changes (F : Nat) (cs : CS) (x0 : Nat) : Option Int32 := Option.bind (gI cs 12 398 x0) fun v_1 => some v_1
set_option maxHeartbeats 4000000 in
set_option maxRecDepth 100000 in
theorem sc_X11_changes (l : Launch) (dC : Nat → ClassId) (dI : Nat → Nat → Nat) (cB cI cJ cZ cS cO : ClassId) (b : Nat) (K V : Nat → Nat) (fz : Value) (F : Nat) (cs : CS) (x0 : Nat) (r9 : Int32) (hf : c_X11_changes F cs x0 = some r9) : ocI l dC dI cB cI cJ cZ cS cO b K V fz yX11_changes (wsOf yX11_changes cX11_changes 1 (some .int)) (0) [.ref (b + x0)] cs cs r9 := by
  intro sz
  refine Met.ofW (cc := cX11_changes) (maxL := 1) (ret := (some .int)) (by decide) rfl ?_
  intro p e s m args below meth c s₁ B hml hv
  obtain ⟨rfl, hsz, hP, hK, hD0, hZ⟩ := hv
  have hx := B.exec
  have hb := B.bytes
  have hr := B.returns
  have hts := atoms_spec (ws := (wsOf yX11_changes cX11_changes 1 (some .int))) B.pre
  have hown : s.vm.findClass RX11 = some m.cls := findClass_of_methodNamed B.named
  have hlocks := B.notSynchronized
  subst hsz
  have hD := hD0.self (sz := s.heap.size)
  generalize hAe : va_A (cW cB cI cJ cZ cS cO b cs) s.heap.size = A at hD hZ ⊢
  have hA : ∀ q : Nat, s.heap.size ≤ q → A q := fun q h => by rw [← hAe]; exact Or.inr h
  have hS : va_S A s.heap s.heap [] := va_S.rf
  have hl := lv_entry ([.ref (b + x0)]) (n := 1) (Nat.le_of_ble_eq_true rfl)
  rw [lg_entry_eq]
  generalize (lg_sl ([.ref (b + x0)]) ++ List.replicate (1 - (lg_sl ([.ref (b + x0)])).length) Slot.unset).toArray = ls at hl ⊢
  have hl : lv_has ls 1 [(0, .ref (b + x0))] := hl
  have h := hf
  unfold c_X11_changes at h
  refine lv_aload_n hx hb dX11_changes_0 rfl (lv_at hl 0 rfl) ?_
  replace h := ob h; obtain ⟨v_1, hv_1, h⟩ := h
  refine fg_X11_98 hx hb hts hown hK hP hv_1 dX11_changes_1 ?_
  have e2 := Option.some.inj h
  exact W.iret (v := v_1) hx hb hr (fun t_ ht hW => ⟨⟨v_1, (), rfl, e2, by rw [ht]; exact hP, hD⟩, hS.F ht⟩) hS.2.2 dX11_changes_4
theorem dX11_change_0 : decode cX11_change 0 = .ok (.iload_n 1, 1) := by decide +kernel
theorem dX11_change_1 : decode cX11_change 1 = .ok (.ifCond .lt 20, 3) := by decide +kernel
theorem dX11_change_4 : decode cX11_change 4 = .ok (.iload_n 1, 1) := by decide +kernel
theorem dX11_change_5 : decode cX11_change 5 = .ok (.aload_n 0, 1) := by decide +kernel
theorem dX11_change_6 : decode cX11_change 6 = .ok (.getfield 98, 3) := by decide +kernel
theorem dX11_change_9 : decode cX11_change 9 = .ok (.if_icmp .ge 12, 3) := by decide +kernel
theorem dX11_change_12 : decode cX11_change 12 = .ok (.iload_n 1, 1) := by decide +kernel
theorem dX11_change_13 : decode cX11_change 13 = .ok (.aload_n 0, 1) := by decide +kernel
theorem dX11_change_14 : decode cX11_change 14 = .ok (.getfield 47, 3) := by decide +kernel
theorem dX11_change_17 : decode cX11_change 17 = .ok (.arraylength, 1) := by decide +kernel
theorem dX11_change_18 : decode cX11_change 18 = .ok (.if_icmp .lt 5, 3) := by decide +kernel
theorem dX11_change_21 : decode cX11_change 21 = .ok (.iconst 0, 1) := by decide +kernel
theorem dX11_change_22 : decode cX11_change 22 = .ok (.ireturn, 1) := by decide +kernel
theorem dX11_change_23 : decode cX11_change 23 = .ok (.aload_n 0, 1) := by decide +kernel
theorem dX11_change_24 : decode cX11_change 24 = .ok (.getfield 47, 3) := by decide +kernel
theorem dX11_change_27 : decode cX11_change 27 = .ok (.iload_n 1, 1) := by decide +kernel
theorem dX11_change_28 : decode cX11_change 28 = .ok (.iaload, 1) := by decide +kernel
theorem dX11_change_29 : decode cX11_change 29 = .ok (.ireturn, 1) := by decide +kernel
def c_X11_change_b21 (F : Nat) (cs : CS) : Option Int32 := some 0
def c_X11_change (F : Nat) (cs : CS) (x0 : Nat) (x1 : Int32) : Option Int32 := if x1 < 0 then (c_X11_change_b21 F cs ) else (Option.bind (gI cs 12 398 x0) fun v_2 => if v_2 ≤ x1 then (c_X11_change_b21 F cs ) else (Option.bind (gA cs 12 397 x0) fun v_4 => Option.bind (lnA cs 397 x0 v_4) fun v_5 => if x1 < v_5 then (Option.bind (gA cs 12 397 x0) fun v_7 => Option.bind (rA cs 397 x0 v_7 x1) fun v_8 => some v_8) else (c_X11_change_b21 F cs )))
theorem cw_X11_X11_change {R : Room} {s : State} {args : Array Value} {y0 : MethodName} {c0 : ByteArray} {n0 : Nat} {r0 : Option FieldType} (hts : ∀ w ∈ wsOf y0 c0 n0 r0, w.before args s = true) {fr : Nat} (h1 : fr + 1 ≤ R.frames) (h2 : 8 + (2 + 11) + 60 * fr ≤ R.locals) : CallW R s args RX11 RX11 151 yX11_change cX11_change 2 (some .int) (wsOf yX11_change cX11_change 2 (some .int)) ({ frames := fr, cells := 0, slots := 0, locals := 60 * fr } : Room) 0 0 1 := cwV 1 hts (gd_all (in_V kw_1627 kw_1616 kw_1617 kw_181 kc_X11_change)) rfl rfl rfl (by decide +kernel) ⟨h1, h2⟩
set_option maxHeartbeats 4000000 in
set_option maxRecDepth 100000 in
theorem sc_X11_change (l : Launch) (dC : Nat → ClassId) (dI : Nat → Nat → Nat) (cB cI cJ cZ cS cO : ClassId) (b : Nat) (K V : Nat → Nat) (fz : Value) (F : Nat) (cs : CS) (x0 : Nat) (x1 : Int32) (r9 : Int32) (hf : c_X11_change F cs x0 x1 = some r9) : ocI l dC dI cB cI cJ cZ cS cO b K V fz yX11_change (wsOf yX11_change cX11_change 2 (some .int)) (0) [.ref (b + x0), .int x1] cs cs r9 := by
  intro sz
  refine Met.ofW (cc := cX11_change) (maxL := 2) (ret := (some .int)) (by decide) rfl ?_
  intro p e s m args below meth c s₁ B hml hv
  obtain ⟨rfl, hsz, hP, hK, hD0, hZ⟩ := hv
  have hx := B.exec
  have hb := B.bytes
  have hr := B.returns
  have hts := atoms_spec (ws := (wsOf yX11_change cX11_change 2 (some .int))) B.pre
  have hown : s.vm.findClass RX11 = some m.cls := findClass_of_methodNamed B.named
  have hlocks := B.notSynchronized
  subst hsz
  have hD := hD0.self (sz := s.heap.size)
  generalize hAe : va_A (cW cB cI cJ cZ cS cO b cs) s.heap.size = A at hD hZ ⊢
  have hA : ∀ q : Nat, s.heap.size ≤ q → A q := fun q h => by rw [← hAe]; exact Or.inr h
  have hS : va_S A s.heap s.heap [] := va_S.rf
  have hl := lv_entry ([.ref (b + x0), .int x1]) (n := 2) (Nat.le_of_ble_eq_true rfl)
  rw [lg_entry_eq]
  generalize (lg_sl ([.ref (b + x0), .int x1]) ++ List.replicate (2 - (lg_sl ([.ref (b + x0), .int x1])).length) Slot.unset).toArray = ls at hl ⊢
  have hl : lv_has ls 2 [(0, .ref (b + x0)), (1, .int x1)] := hl
  have B_21 : c_X11_change_b21 F cs = some r9 → ∀ (H : Heap) (locs : List Loc) (ls : Array Slot), va_P (dC, dI) vwCl (cW cB cI cJ cZ cS cO b cs) H → va_D A (cW cB cI cJ cZ cS cO b cs) → va_S A s.heap H locs → lv_has ls 2 [] → W p l e (headSpec (wsOf yX11_change cX11_change 2 (some .int)) ({ frames := 0, cells := 0, slots := 0, locals := 60 * (0) } : Room)).room s m ([.ref (b + x0), .int x1] : List Value).toArray below meth c H locs 0 0 (MQ below (va_Qi (fun (x : Int32) (_ : Unit) => x = r9) (fun _ t_ => va_P (dC, dI) vwCl (cW cB cI cJ cZ cS cO b cs) t_.heap ∧ va_D A (cW cB cI cJ cZ cS cO b cs)) A) ([.ref (b + x0), .int x1] : List Value).toArray s 0 0 A) (F0 m 21 ls []) := by
    intro  h H locs ls hP hD hS hl
    unfold c_X11_change_b21 at h
    refine lv_iconst (v := 0) hx hb dX11_change_21 (by decide) ?_
    have e2 := Option.some.inj h
    exact W.iret (v := 0) hx hb hr (fun t_ ht hW => ⟨⟨0, (), rfl, e2, by rw [ht]; exact hP, hD⟩, hS.F ht⟩) hS.2.2 dX11_change_22
  have h := hf
  unfold c_X11_change at h
  refine lv_iload_n hx hb dX11_change_0 rfl (lv_at hl 1 rfl) ?_
  refine lv_if_lt (tgt := 21) hx hb dX11_change_1 (by decide) (fun c_1 => ?_) (fun c_1 => ?_)
  · skip
    replace h := (if_pos c_1).symm.trans h
    exact B_21  h _ _ _ hP hD hS (lv_sub hl [] rfl)
  · skip
    replace h := (if_neg c_1).symm.trans h
    refine lv_iload_n hx hb dX11_change_4 rfl (lv_at hl 1 rfl) ?_
    refine lv_aload_n hx hb dX11_change_5 rfl (lv_at hl 0 rfl) ?_
    replace h := ob h; obtain ⟨v_2, hv_2, h⟩ := h
    refine fg_X11_98 hx hb hts hown hK hP hv_2 dX11_change_6 ?_
    refine lv_icmp_ge (tgt := 21) hx hb dX11_change_9 (by decide) (fun c_3 => ?_) (fun c_3 => ?_)
    · skip
      replace h := (if_pos c_3).symm.trans h
      exact B_21  h _ _ _ hP hD hS (lv_sub hl [] rfl)
    · skip
      replace h := (if_neg c_3).symm.trans h
      refine lv_iload_n hx hb dX11_change_12 rfl (lv_at hl 1 rfl) ?_
      refine lv_aload_n hx hb dX11_change_13 rfl (lv_at hl 0 rfl) ?_
      replace h := ob h; obtain ⟨v_4, hv_4, h⟩ := h
      refine fg_X11_47 hx hb hts hown hK hP hv_4 dX11_change_14 ?_
      replace h := ob h; obtain ⟨v_5, hv_5, h⟩ := h
      refine alen0 hx hb hK hP rfl hv_5 dX11_change_17 ?_
      refine lv_icmp_lt (tgt := 23) hx hb dX11_change_18 (by decide) (fun c_6 => ?_) (fun c_6 => ?_)
      · skip
        replace h := (if_pos c_6).symm.trans h
        refine lv_aload_n hx hb dX11_change_23 rfl (lv_at hl 0 rfl) ?_
        replace h := ob h; obtain ⟨v_7, hv_7, h⟩ := h
        refine fg_X11_47 hx hb hts hown hK hP hv_7 dX11_change_24 ?_
        refine lv_iload_n hx hb dX11_change_27 rfl (lv_at hl 1 rfl) ?_
        replace h := ob h; obtain ⟨v_8, hv_8, h⟩ := h
        refine ald0 hx hb hK hP rfl hv_8 dX11_change_28 ?_
        have e2 := Option.some.inj h
        exact W.iret (v := v_8) hx hb hr (fun t_ ht hW => ⟨⟨v_8, (), rfl, e2, by rw [ht]; exact hP, hD⟩, hS.F ht⟩) hS.2.2 dX11_change_29
      · skip
        replace h := (if_neg c_6).symm.trans h
        exact B_21  h _ _ _ hP hD hS (lv_sub hl [] rfl)
theorem dX11_width_0 : decode cX11_width 0 = .ok (.aload_n 0, 1) := by decide +kernel
theorem dX11_width_1 : decode cX11_width 1 = .ok (.getfield 107, 3) := by decide +kernel
theorem dX11_width_4 : decode cX11_width 4 = .ok (.ifnonnull 7, 3) := by decide +kernel
theorem dX11_width_7 : decode cX11_width 7 = .ok (.iconst 0, 1) := by decide +kernel
theorem dX11_width_8 : decode cX11_width 8 = .ok (.goto 16, 3) := by decide +kernel
theorem dX11_width_11 : decode cX11_width 11 = .ok (.aload_n 0, 1) := by decide +kernel
theorem dX11_width_12 : decode cX11_width 12 = .ok (.getfield 107, 3) := by decide +kernel
theorem dX11_width_15 : decode cX11_width 15 = .ok (.getfield 90, 3) := by decide +kernel
theorem dX11_width_18 : decode cX11_width 18 = .ok (.getfield 195, 3) := by decide +kernel
theorem dX11_width_21 : decode cX11_width 21 = .ok (.getfield 201, 3) := by decide +kernel
theorem dX11_width_24 : decode cX11_width 24 = .ok (.ireturn, 1) := by decide +kernel
def c_X11_width_b24 (F : Nat) (cs : CS) (y0 : Int32) : Option Int32 := some y0
def c_X11_width (F : Nat) (cs : CS) (x0 : Nat) : Option Int32 := Option.bind (gR cs 12 389 x0) fun v_1 => oc v_1 (c_X11_width_b24 F cs 0) (fun i_2 => Option.bind (gR cs 12 389 x0) fun v_3 => Option.bind (v_3) fun i_4 => Option.bind (gR cs 10 323 i_4) fun v_5 => Option.bind (v_5) fun i_6 => Option.bind (gR cs 4 129 i_6) fun v_7 => Option.bind (v_7) fun i_8 => Option.bind (gI cs 3 96 i_8) fun v_9 => c_X11_width_b24 F cs v_9)
theorem cw_X11_X11_width {R : Room} {s : State} {args : Array Value} {y0 : MethodName} {c0 : ByteArray} {n0 : Nat} {r0 : Option FieldType} (hts : ∀ w ∈ wsOf y0 c0 n0 r0, w.before args s = true) {fr : Nat} (h1 : fr + 1 ≤ R.frames) (h2 : 8 + (1 + 11) + 60 * fr ≤ R.locals) : CallW R s args RX11 RX11 127 yX11_width cX11_width 1 (some .int) (wsOf yX11_width cX11_width 1 (some .int)) ({ frames := fr, cells := 0, slots := 0, locals := 60 * fr } : Room) 0 0 0 := cwV 0 hts (gd_all (in_V kw_1329 kw_1331 kw_66 kw_181 kc_X11_width)) rfl rfl rfl (by decide +kernel) ⟨h1, h2⟩
set_option maxHeartbeats 4000000 in
set_option maxRecDepth 100000 in
theorem sc_X11_width (l : Launch) (dC : Nat → ClassId) (dI : Nat → Nat → Nat) (cB cI cJ cZ cS cO : ClassId) (b : Nat) (K V : Nat → Nat) (fz : Value) (F : Nat) (cs : CS) (x0 : Nat) (r9 : Int32) (hf : c_X11_width F cs x0 = some r9) : ocI l dC dI cB cI cJ cZ cS cO b K V fz yX11_width (wsOf yX11_width cX11_width 1 (some .int)) (0) [.ref (b + x0)] cs cs r9 := by
  intro sz
  refine Met.ofW (cc := cX11_width) (maxL := 1) (ret := (some .int)) (by decide) rfl ?_
  intro p e s m args below meth c s₁ B hml hv
  obtain ⟨rfl, hsz, hP, hK, hD0, hZ⟩ := hv
  have hx := B.exec
  have hb := B.bytes
  have hr := B.returns
  have hts := atoms_spec (ws := (wsOf yX11_width cX11_width 1 (some .int))) B.pre
  have hown : s.vm.findClass RX11 = some m.cls := findClass_of_methodNamed B.named
  have hlocks := B.notSynchronized
  subst hsz
  have hD := hD0.self (sz := s.heap.size)
  generalize hAe : va_A (cW cB cI cJ cZ cS cO b cs) s.heap.size = A at hD hZ ⊢
  have hA : ∀ q : Nat, s.heap.size ≤ q → A q := fun q h => by rw [← hAe]; exact Or.inr h
  have hS : va_S A s.heap s.heap [] := va_S.rf
  have hl := lv_entry ([.ref (b + x0)]) (n := 1) (Nat.le_of_ble_eq_true rfl)
  rw [lg_entry_eq]
  generalize (lg_sl ([.ref (b + x0)]) ++ List.replicate (1 - (lg_sl ([.ref (b + x0)])).length) Slot.unset).toArray = ls at hl ⊢
  have hl : lv_has ls 1 [(0, .ref (b + x0))] := hl
  have B_24 : ∀ (y0 : Int32), c_X11_width_b24 F cs y0 = some r9 → ∀ (H : Heap) (locs : List Loc) (ls : Array Slot), va_P (dC, dI) vwCl (cW cB cI cJ cZ cS cO b cs) H → va_D A (cW cB cI cJ cZ cS cO b cs) → va_S A s.heap H locs → lv_has ls 1 [] → W p l e (headSpec (wsOf yX11_width cX11_width 1 (some .int)) ({ frames := 0, cells := 0, slots := 0, locals := 60 * (0) } : Room)).room s m ([.ref (b + x0)] : List Value).toArray below meth c H locs 0 0 (MQ below (va_Qi (fun (x : Int32) (_ : Unit) => x = r9) (fun _ t_ => va_P (dC, dI) vwCl (cW cB cI cJ cZ cS cO b cs) t_.heap ∧ va_D A (cW cB cI cJ cZ cS cO b cs)) A) ([.ref (b + x0)] : List Value).toArray s 0 0 A) (F0 m 24 ls [.int y0]) := by
    intro y0 h H locs ls hP hD hS hl
    unfold c_X11_width_b24 at h
    have e2 := Option.some.inj h
    exact W.iret (v := y0) hx hb hr (fun t_ ht hW => ⟨⟨y0, (), rfl, e2, by rw [ht]; exact hP, hD⟩, hS.F ht⟩) hS.2.2 dX11_width_24
  have h := hf
  unfold c_X11_width at h
  refine lv_aload_n hx hb dX11_width_0 rfl (lv_at hl 0 rfl) ?_
  replace h := ob h; obtain ⟨v_1, hv_1, h⟩ := h
  refine fg_X11_107 hx hb hts hown hK hP hv_1 dX11_width_1 ?_
  cases v_1 with
  | none =>
    replace h := oc_n.symm.trans h
    refine lv_ifnonnullN hx hb dX11_width_4 ?_
    refine lv_iconst (v := 0) hx hb dX11_width_7 (by decide) ?_
    refine lv_goto (tgt := 24) hx hb dX11_width_8 (by decide) ?_
    exact B_24 0 h _ _ _ hP hD hS (lv_sub hl [] rfl)
  | some i_2 =>
    replace h := oc_s.symm.trans h
    refine lv_ifnonnull (tgt := 11) hx hb dX11_width_4 (by decide) ?_
    refine lv_aload_n hx hb dX11_width_11 rfl (lv_at hl 0 rfl) ?_
    replace h := ob h; obtain ⟨v_3, hv_3, h⟩ := h
    refine fg_X11_107 hx hb hts hown hK hP hv_3 dX11_width_12 ?_
    replace h := ob h; obtain ⟨i_4, hi_4, h⟩ := h
    subst hi_4
    replace h := ob h; obtain ⟨v_5, hv_5, h⟩ := h
    refine fg_X11_90 hx hb hts hown hK hP hv_5 dX11_width_15 ?_
    replace h := ob h; obtain ⟨i_6, hi_6, h⟩ := h
    subst hi_6
    replace h := ob h; obtain ⟨v_7, hv_7, h⟩ := h
    refine fg_X11_195 hx hb hts hown hK hP hv_7 dX11_width_18 ?_
    replace h := ob h; obtain ⟨i_8, hi_8, h⟩ := h
    subst hi_8
    replace h := ob h; obtain ⟨v_9, hv_9, h⟩ := h
    refine fg_X11_201 hx hb hts hown hK hP hv_9 dX11_width_21 ?_
    exact B_24 v_9 h _ _ _ hP hD hS (lv_sub hl [] rfl)
theorem dX11_changeCell_0 : decode cX11_changeCell 0 = .ok (.iload_n 1, 1) := by decide +kernel
theorem dX11_changeCell_1 : decode cX11_changeCell 1 = .ok (.ifCond .lt 32, 3) := by decide +kernel
theorem dX11_changeCell_4 : decode cX11_changeCell 4 = .ok (.iload_n 1, 1) := by decide +kernel
theorem dX11_changeCell_5 : decode cX11_changeCell 5 = .ok (.aload_n 0, 1) := by decide +kernel
theorem dX11_changeCell_6 : decode cX11_changeCell 6 = .ok (.getfield 98, 3) := by decide +kernel
theorem dX11_changeCell_9 : decode cX11_changeCell 9 = .ok (.if_icmp .ge 24, 3) := by decide +kernel
theorem dX11_changeCell_12 : decode cX11_changeCell 12 = .ok (.iload_n 1, 1) := by decide +kernel
theorem dX11_changeCell_13 : decode cX11_changeCell 13 = .ok (.aload_n 0, 1) := by decide +kernel
theorem dX11_changeCell_14 : decode cX11_changeCell 14 = .ok (.getfield 43, 3) := by decide +kernel
theorem dX11_changeCell_17 : decode cX11_changeCell 17 = .ok (.arraylength, 1) := by decide +kernel
theorem dX11_changeCell_18 : decode cX11_changeCell 18 = .ok (.if_icmp .ge 15, 3) := by decide +kernel
theorem dX11_changeCell_21 : decode cX11_changeCell 21 = .ok (.iload_n 2, 1) := by decide +kernel
theorem dX11_changeCell_22 : decode cX11_changeCell 22 = .ok (.ifCond .lt 11, 3) := by decide +kernel
theorem dX11_changeCell_25 : decode cX11_changeCell 25 = .ok (.iload_n 2, 1) := by decide +kernel
theorem dX11_changeCell_26 : decode cX11_changeCell 26 = .ok (.aload_n 0, 1) := by decide +kernel
theorem dX11_changeCell_27 : decode cX11_changeCell 27 = .ok (.invokevirtual 127, 3) := by decide +kernel
theorem dX11_changeCell_30 : decode cX11_changeCell 30 = .ok (.if_icmp .lt 5, 3) := by decide +kernel
theorem dX11_changeCell_33 : decode cX11_changeCell 33 = .ok (.iconst (-1), 1) := by decide +kernel
theorem dX11_changeCell_34 : decode cX11_changeCell 34 = .ok (.ireturn, 1) := by decide +kernel
theorem dX11_changeCell_35 : decode cX11_changeCell 35 = .ok (.aload_n 0, 1) := by decide +kernel
theorem dX11_changeCell_36 : decode cX11_changeCell 36 = .ok (.getfield 43, 3) := by decide +kernel
theorem dX11_changeCell_39 : decode cX11_changeCell 39 = .ok (.iload_n 1, 1) := by decide +kernel
theorem dX11_changeCell_40 : decode cX11_changeCell 40 = .ok (.iaload, 1) := by decide +kernel
theorem dX11_changeCell_41 : decode cX11_changeCell 41 = .ok (.aload_n 0, 1) := by decide +kernel
theorem dX11_changeCell_42 : decode cX11_changeCell 42 = .ok (.invokevirtual 127, 3) := by decide +kernel
theorem dX11_changeCell_45 : decode cX11_changeCell 45 = .ok (.imul, 1) := by decide +kernel
theorem dX11_changeCell_46 : decode cX11_changeCell 46 = .ok (.iload_n 2, 1) := by decide +kernel
theorem dX11_changeCell_47 : decode cX11_changeCell 47 = .ok (.iadd, 1) := by decide +kernel
theorem dX11_changeCell_48 : decode cX11_changeCell 48 = .ok (.ireturn, 1) := by decide +kernel
def c_X11_changeCell_b33 (F : Nat) (cs : CS) : Option Int32 := some (-1)
def c_X11_changeCell (F : Nat) (cs : CS) (x0 : Nat) (x1 : Int32) (x2 : Int32) : Option Int32 := if x1 < 0 then (c_X11_changeCell_b33 F cs ) else (Option.bind (gI cs 12 398 x0) fun v_2 => if v_2 ≤ x1 then (c_X11_changeCell_b33 F cs ) else (Option.bind (gA cs 12 396 x0) fun v_4 => Option.bind (lnA cs 396 x0 v_4) fun v_5 => if v_5 ≤ x1 then (c_X11_changeCell_b33 F cs ) else (if x2 < 0 then (c_X11_changeCell_b33 F cs ) else (Option.bind (ckE cs 12 x0) fun _ => Option.bind (c_X11_width F cs x0) fun v_8 => if x2 < v_8 then (Option.bind (gA cs 12 396 x0) fun v_11 => Option.bind (rA cs 396 x0 v_11 x1) fun v_12 => Option.bind (ckE cs 12 x0) fun _ => Option.bind (c_X11_width F cs x0) fun v_13 => some ((v_12 * v_13) + x2)) else (c_X11_changeCell_b33 F cs )))))
theorem cw_X11_X11_changeCell {R : Room} {s : State} {args : Array Value} {y0 : MethodName} {c0 : ByteArray} {n0 : Nat} {r0 : Option FieldType} (hts : ∀ w ∈ wsOf y0 c0 n0 r0, w.before args s = true) {fr : Nat} (h1 : fr + 1 ≤ R.frames) (h2 : 8 + (3 + 11) + 60 * fr ≤ R.locals) : CallW R s args RX11 RX11 147 yX11_changeCell cX11_changeCell 3 (some .int) (wsOf yX11_changeCell cX11_changeCell 3 (some .int)) ({ frames := fr, cells := 0, slots := 0, locals := 60 * fr } : Room) 0 0 2 := cwV 2 hts (gd_all (in_V kw_1623 kw_1625 kw_94 kw_181 kc_X11_changeCell)) rfl rfl rfl (by decide +kernel) ⟨h1, h2⟩
set_option maxHeartbeats 4000000 in
set_option maxRecDepth 100000 in
theorem sc_X11_changeCell (l : Launch) (dC : Nat → ClassId) (dI : Nat → Nat → Nat) (cB cI cJ cZ cS cO : ClassId) (b : Nat) (K V : Nat → Nat) (fz : Value) (F : Nat) (cs : CS) (x0 : Nat) (x1 : Int32) (x2 : Int32) (r9 : Int32) (hf : c_X11_changeCell F cs x0 x1 x2 = some r9) : ocI l dC dI cB cI cJ cZ cS cO b K V fz yX11_changeCell (wsOf yX11_changeCell cX11_changeCell 3 (some .int)) (1) [.ref (b + x0), .int x1, .int x2] cs cs r9 := by
  intro sz
  refine Met.ofW (cc := cX11_changeCell) (maxL := 3) (ret := (some .int)) (by decide) rfl ?_
  intro p e s m args below meth c s₁ B hml hv
  obtain ⟨rfl, hsz, hP, hK, hD0, hZ⟩ := hv
  have hx := B.exec
  have hb := B.bytes
  have hr := B.returns
  have hts := atoms_spec (ws := (wsOf yX11_changeCell cX11_changeCell 3 (some .int))) B.pre
  have hown : s.vm.findClass RX11 = some m.cls := findClass_of_methodNamed B.named
  have hlocks := B.notSynchronized
  subst hsz
  have hD := hD0.self (sz := s.heap.size)
  generalize hAe : va_A (cW cB cI cJ cZ cS cO b cs) s.heap.size = A at hD hZ ⊢
  have hA : ∀ q : Nat, s.heap.size ≤ q → A q := fun q h => by rw [← hAe]; exact Or.inr h
  have hS : va_S A s.heap s.heap [] := va_S.rf
  have hl := lv_entry ([.ref (b + x0), .int x1, .int x2]) (n := 3) (Nat.le_of_ble_eq_true rfl)
  rw [lg_entry_eq]
  generalize (lg_sl ([.ref (b + x0), .int x1, .int x2]) ++ List.replicate (3 - (lg_sl ([.ref (b + x0), .int x1, .int x2])).length) Slot.unset).toArray = ls at hl ⊢
  have hl : lv_has ls 3 [(0, .ref (b + x0)), (1, .int x1), (2, .int x2)] := hl
  have B_33 : c_X11_changeCell_b33 F cs = some r9 → ∀ (H : Heap) (locs : List Loc) (ls : Array Slot), va_P (dC, dI) vwCl (cW cB cI cJ cZ cS cO b cs) H → va_D A (cW cB cI cJ cZ cS cO b cs) → va_S A s.heap H locs → lv_has ls 3 [] → W p l e (headSpec (wsOf yX11_changeCell cX11_changeCell 3 (some .int)) ({ frames := 1, cells := 0, slots := 0, locals := 60 * (1) } : Room)).room s m ([.ref (b + x0), .int x1, .int x2] : List Value).toArray below meth c H locs 0 0 (MQ below (va_Qi (fun (x : Int32) (_ : Unit) => x = r9) (fun _ t_ => va_P (dC, dI) vwCl (cW cB cI cJ cZ cS cO b cs) t_.heap ∧ va_D A (cW cB cI cJ cZ cS cO b cs)) A) ([.ref (b + x0), .int x1, .int x2] : List Value).toArray s 0 0 A) (F0 m 33 ls []) := by
    intro  h H locs ls hP hD hS hl
    unfold c_X11_changeCell_b33 at h
    refine lv_iconst (v := (-1)) hx hb dX11_changeCell_33 (by decide) ?_
    have e2 := Option.some.inj h
    exact W.iret (v := (-1)) hx hb hr (fun t_ ht hW => ⟨⟨(-1), (), rfl, e2, by rw [ht]; exact hP, hD⟩, hS.F ht⟩) hS.2.2 dX11_changeCell_34
  have h := hf
  unfold c_X11_changeCell at h
  refine lv_iload_n hx hb dX11_changeCell_0 rfl (lv_at hl 1 rfl) ?_
  refine lv_if_lt (tgt := 33) hx hb dX11_changeCell_1 (by decide) (fun c_1 => ?_) (fun c_1 => ?_)
  · skip
    replace h := (if_pos c_1).symm.trans h
    exact B_33  h _ _ _ hP hD hS (lv_sub hl [] rfl)
  · skip
    replace h := (if_neg c_1).symm.trans h
    refine lv_iload_n hx hb dX11_changeCell_4 rfl (lv_at hl 1 rfl) ?_
    refine lv_aload_n hx hb dX11_changeCell_5 rfl (lv_at hl 0 rfl) ?_
    replace h := ob h; obtain ⟨v_2, hv_2, h⟩ := h
    refine fg_X11_98 hx hb hts hown hK hP hv_2 dX11_changeCell_6 ?_
    refine lv_icmp_ge (tgt := 33) hx hb dX11_changeCell_9 (by decide) (fun c_3 => ?_) (fun c_3 => ?_)
    · skip
      replace h := (if_pos c_3).symm.trans h
      exact B_33  h _ _ _ hP hD hS (lv_sub hl [] rfl)
    · skip
      replace h := (if_neg c_3).symm.trans h
      refine lv_iload_n hx hb dX11_changeCell_12 rfl (lv_at hl 1 rfl) ?_
      refine lv_aload_n hx hb dX11_changeCell_13 rfl (lv_at hl 0 rfl) ?_
      replace h := ob h; obtain ⟨v_4, hv_4, h⟩ := h
      refine fg_X11_43 hx hb hts hown hK hP hv_4 dX11_changeCell_14 ?_
      replace h := ob h; obtain ⟨v_5, hv_5, h⟩ := h
      refine alen0 hx hb hK hP rfl hv_5 dX11_changeCell_17 ?_
      refine lv_icmp_ge (tgt := 33) hx hb dX11_changeCell_18 (by decide) (fun c_6 => ?_) (fun c_6 => ?_)
      · skip
        replace h := (if_pos c_6).symm.trans h
        exact B_33  h _ _ _ hP hD hS (lv_sub hl [] rfl)
      · skip
        replace h := (if_neg c_6).symm.trans h
        refine lv_iload_n hx hb dX11_changeCell_21 rfl (lv_at hl 2 rfl) ?_
        refine lv_if_lt (tgt := 33) hx hb dX11_changeCell_22 (by decide) (fun c_7 => ?_) (fun c_7 => ?_)
        · skip
          replace h := (if_pos c_7).symm.trans h
          exact B_33  h _ _ _ hP hD hS (lv_sub hl [] rfl)
        · skip
          replace h := (if_neg c_7).symm.trans h
          refine lv_iload_n hx hb dX11_changeCell_25 rfl (lv_at hl 2 rfl) ?_
          refine lv_aload_n hx hb dX11_changeCell_26 rfl (lv_at hl 0 rfl) ?_
          replace h := ob h; obtain ⟨w_9, hw_9, h⟩ := h
          replace h := ob h; obtain ⟨v_8, hv_8, h⟩ := h
          refine ccI (As := []) hx hb hml hts hown hK hP hD hS hA hZ (X := 12) (by decide) rfl (ckE_some hw_9) (sc_X11_width l dC dI cB cI cJ cZ cS cO b K V fz F cs x0 v_8 hv_8) (cw_X11_X11_width hts (fr := 0) (Nat.le_of_ble_eq_true rfl) (Nat.le_of_ble_eq_true rfl)) rfl hl.1 (Nat.le_of_ble_eq_true rfl) ⟨Nat.zero_le _, Nat.zero_le _⟩ dX11_changeCell_27 (fun H locs hP hD hS => ?_)
          refine lv_icmp_lt (tgt := 35) hx hb dX11_changeCell_30 (by decide) (fun c_10 => ?_) (fun c_10 => ?_)
          · skip
            replace h := (if_pos c_10).symm.trans h
            refine lv_aload_n hx hb dX11_changeCell_35 rfl (lv_at hl 0 rfl) ?_
            replace h := ob h; obtain ⟨v_11, hv_11, h⟩ := h
            refine fg_X11_43 hx hb hts hown hK hP hv_11 dX11_changeCell_36 ?_
            refine lv_iload_n hx hb dX11_changeCell_39 rfl (lv_at hl 1 rfl) ?_
            replace h := ob h; obtain ⟨v_12, hv_12, h⟩ := h
            refine ald0 hx hb hK hP rfl hv_12 dX11_changeCell_40 ?_
            refine lv_aload_n hx hb dX11_changeCell_41 rfl (lv_at hl 0 rfl) ?_
            replace h := ob h; obtain ⟨w_14, hw_14, h⟩ := h
            replace h := ob h; obtain ⟨v_13, hv_13, h⟩ := h
            refine ccI (As := []) hx hb hml hts hown hK hP hD hS hA hZ (X := 12) (by decide) rfl (ckE_some hw_14) (sc_X11_width l dC dI cB cI cJ cZ cS cO b K V fz F cs x0 v_13 hv_13) (cw_X11_X11_width hts (fr := 0) (Nat.le_of_ble_eq_true rfl) (Nat.le_of_ble_eq_true rfl)) rfl hl.1 (Nat.le_of_ble_eq_true rfl) ⟨Nat.zero_le _, Nat.zero_le _⟩ dX11_changeCell_42 (fun H locs hP hD hS => ?_)
            refine lv_imul hx hb dX11_changeCell_45 ?_
            refine lv_iload_n hx hb dX11_changeCell_46 rfl (lv_at hl 2 rfl) ?_
            refine lv_iadd hx hb dX11_changeCell_47 ?_
            have e2 := Option.some.inj h
            exact W.iret (v := (v_12 * v_13) + x2) hx hb hr (fun t_ ht hW => ⟨⟨(v_12 * v_13) + x2, (), rfl, e2, by rw [ht]; exact hP, hD⟩, hS.F ht⟩) hS.2.2 dX11_changeCell_48
          · skip
            replace h := (if_neg c_10).symm.trans h
            exact B_33  h _ _ _ hP hD hS (lv_sub hl [] rfl)
theorem dX11_changed_0 : decode cX11_changed 0 = .ok (.aload_n 0, 1) := by decide +kernel
theorem dX11_changed_1 : decode cX11_changed 1 = .ok (.iload_n 1, 1) := by decide +kernel
theorem dX11_changed_2 : decode cX11_changed 2 = .ok (.iload_n 2, 1) := by decide +kernel
theorem dX11_changed_3 : decode cX11_changed 3 = .ok (.invokevirtual 147, 3) := by decide +kernel
theorem dX11_changed_6 : decode cX11_changed 6 = .ok (.istore_n 3, 1) := by decide +kernel
theorem dX11_changed_7 : decode cX11_changed 7 = .ok (.iload_n 3, 1) := by decide +kernel
theorem dX11_changed_8 : decode cX11_changed 8 = .ok (.ifCond .ge 5, 3) := by decide +kernel
theorem dX11_changed_11 : decode cX11_changed 11 = .ok (.lconst 0, 1) := by decide +kernel
theorem dX11_changed_12 : decode cX11_changed 12 = .ok (.lreturn, 1) := by decide +kernel
theorem dX11_changed_13 : decode cX11_changed 13 = .ok (.aload_n 0, 1) := by decide +kernel
theorem dX11_changed_14 : decode cX11_changed 14 = .ok (.iload_n 1, 1) := by decide +kernel
theorem dX11_changed_15 : decode cX11_changed 15 = .ok (.invokevirtual 151, 3) := by decide +kernel
theorem dX11_changed_18 : decode cX11_changed 18 = .ok (.ifCond .ge 14, 3) := by decide +kernel
theorem dX11_changed_21 : decode cX11_changed 21 = .ok (.aload_n 0, 1) := by decide +kernel
theorem dX11_changed_22 : decode cX11_changed 22 = .ok (.getfield 40, 3) := by decide +kernel
theorem dX11_changed_25 : decode cX11_changed 25 = .ok (.iload_n 3, 1) := by decide +kernel
theorem dX11_changed_26 : decode cX11_changed 26 = .ok (.invokevirtual 154, 3) := by decide +kernel
theorem dX11_changed_29 : decode cX11_changed 29 = .ok (.goto 11, 3) := by decide +kernel
theorem dX11_changed_32 : decode cX11_changed 32 = .ok (.aload_n 0, 1) := by decide +kernel
theorem dX11_changed_33 : decode cX11_changed 33 = .ok (.getfield 37, 3) := by decide +kernel
theorem dX11_changed_36 : decode cX11_changed 36 = .ok (.iload_n 3, 1) := by decide +kernel
theorem dX11_changed_37 : decode cX11_changed 37 = .ok (.invokevirtual 154, 3) := by decide +kernel
theorem dX11_changed_40 : decode cX11_changed 40 = .ok (.lreturn, 1) := by decide +kernel
def c_X11_changed_b40 (F : Nat) (cs : CS) (y0 : Int64) : Option Int64 := some y0
def c_X11_changed (F : Nat) (cs : CS) (x0 : Nat) (x1 : Int32) (x2 : Int32) : Option Int64 := Option.bind (ckE cs 12 x0) fun _ => Option.bind (c_X11_changeCell F cs x0 x1 x2) fun v_1 => if 0 ≤ v_1 then (Option.bind (ckE cs 12 x0) fun _ => Option.bind (c_X11_change F cs x0 x1) fun v_4 => if 0 ≤ v_4 then (Option.bind (gR cs 12 393 x0) fun v_7 => Option.bind (v_7) fun i_9 => Option.bind (ckE cs 9 i_9) fun _ => Option.bind (c_X8_valueOf F cs i_9 v_1) fun v_8 => c_X11_changed_b40 F cs v_8) else (Option.bind (gR cs 12 394 x0) fun v_11 => Option.bind (v_11) fun i_13 => Option.bind (ckE cs 9 i_13) fun _ => Option.bind (c_X8_valueOf F cs i_13 v_1) fun v_12 => c_X11_changed_b40 F cs v_12)) else (some 0)
set_option maxHeartbeats 4000000 in
set_option maxRecDepth 100000 in
theorem sc_X11_changed (l : Launch) (dC : Nat → ClassId) (dI : Nat → Nat → Nat) (cB cI cJ cZ cS cO : ClassId) (b : Nat) (K V : Nat → Nat) (fz : Value) (F : Nat) (cs : CS) (x0 : Nat) (x1 : Int32) (x2 : Int32) (r9 : Int64) (hf : c_X11_changed F cs x0 x1 x2 = some r9) : ocL l dC dI cB cI cJ cZ cS cO b K V fz yX11_changed (wsOf yX11_changed cX11_changed 4 (some .long)) (2) [.ref (b + x0), .int x1, .int x2] cs cs r9 := by
  intro sz
  refine Met.ofW (cc := cX11_changed) (maxL := 4) (ret := (some .long)) (by decide) rfl ?_
  intro p e s m args below meth c s₁ B hml hv
  obtain ⟨rfl, hsz, hP, hK, hD0, hZ⟩ := hv
  have hx := B.exec
  have hb := B.bytes
  have hr := B.returns
  have hts := atoms_spec (ws := (wsOf yX11_changed cX11_changed 4 (some .long))) B.pre
  have hown : s.vm.findClass RX11 = some m.cls := findClass_of_methodNamed B.named
  have hlocks := B.notSynchronized
  subst hsz
  have hD := hD0.self (sz := s.heap.size)
  generalize hAe : va_A (cW cB cI cJ cZ cS cO b cs) s.heap.size = A at hD hZ ⊢
  have hA : ∀ q : Nat, s.heap.size ≤ q → A q := fun q h => by rw [← hAe]; exact Or.inr h
  have hS : va_S A s.heap s.heap [] := va_S.rf
  have hl := lv_entry ([.ref (b + x0), .int x1, .int x2]) (n := 4) (Nat.le_of_ble_eq_true rfl)
  rw [lg_entry_eq]
  generalize (lg_sl ([.ref (b + x0), .int x1, .int x2]) ++ List.replicate (4 - (lg_sl ([.ref (b + x0), .int x1, .int x2])).length) Slot.unset).toArray = ls at hl ⊢
  have hl : lv_has ls 4 [(0, .ref (b + x0)), (1, .int x1), (2, .int x2)] := hl
  have B_40 : ∀ (y0 : Int64), c_X11_changed_b40 F cs y0 = some r9 → ∀ (H : Heap) (locs : List Loc) (ls : Array Slot), va_P (dC, dI) vwCl (cW cB cI cJ cZ cS cO b cs) H → va_D A (cW cB cI cJ cZ cS cO b cs) → va_S A s.heap H locs → lv_has ls 4 [] → W p l e (headSpec (wsOf yX11_changed cX11_changed 4 (some .long)) ({ frames := 2, cells := 0, slots := 0, locals := 60 * (2) } : Room)).room s m ([.ref (b + x0), .int x1, .int x2] : List Value).toArray below meth c H locs 0 0 (MQ below (va_Ql (fun (x : Int64) (_ : Unit) => x = r9) (fun _ t_ => va_P (dC, dI) vwCl (cW cB cI cJ cZ cS cO b cs) t_.heap ∧ va_D A (cW cB cI cJ cZ cS cO b cs)) A) ([.ref (b + x0), .int x1, .int x2] : List Value).toArray s 0 0 A) (F0 m 40 ls [.long y0]) := by
    intro y0 h H locs ls hP hD hS hl
    unfold c_X11_changed_b40 at h
    have e2 := Option.some.inj h
    exact W.lret (v := y0) hx hb hr (fun t_ ht hW => ⟨⟨y0, (), rfl, e2, by rw [ht]; exact hP, hD⟩, hS.F ht⟩) hS.2.2 dX11_changed_40
  have h := hf
  unfold c_X11_changed at h
  refine lv_aload_n hx hb dX11_changed_0 rfl (lv_at hl 0 rfl) ?_
  refine lv_iload_n hx hb dX11_changed_1 rfl (lv_at hl 1 rfl) ?_
  refine lv_iload_n hx hb dX11_changed_2 rfl (lv_at hl 2 rfl) ?_
  replace h := ob h; obtain ⟨w_2, hw_2, h⟩ := h
  replace h := ob h; obtain ⟨v_1, hv_1, h⟩ := h
  refine ccI (As := [.int x1, .int x2]) hx hb hml hts hown hK hP hD hS hA hZ (X := 12) (by decide) rfl (ckE_some hw_2) (sc_X11_changeCell l dC dI cB cI cJ cZ cS cO b K V fz F cs x0 x1 x2 v_1 hv_1) (cw_X11_X11_changeCell hts (fr := 1) (Nat.le_of_ble_eq_true rfl) (Nat.le_of_ble_eq_true rfl)) rfl hl.1 (Nat.le_of_ble_eq_true rfl) ⟨Nat.zero_le _, Nat.zero_le _⟩ dX11_changed_3 (fun H locs hP hD hS => ?_)
  refine lv_istore_n (lv' := [(3, .int v_1), (0, .ref (b + x0)), (1, .int x1), (2, .int x2)]) hx hb dX11_changed_6 rfl hl (by decide) rfl (fun ls hl => ?_)
  refine lv_iload_n hx hb dX11_changed_7 rfl (lv_at hl 0 rfl) ?_
  refine lv_if_ge (tgt := 13) hx hb dX11_changed_8 (by decide) (fun c_3 => ?_) (fun c_3 => ?_)
  · skip
    replace h := (if_pos c_3).symm.trans h
    refine lv_aload_n hx hb dX11_changed_13 rfl (lv_at hl 1 rfl) ?_
    refine lv_iload_n hx hb dX11_changed_14 rfl (lv_at hl 2 rfl) ?_
    replace h := ob h; obtain ⟨w_5, hw_5, h⟩ := h
    replace h := ob h; obtain ⟨v_4, hv_4, h⟩ := h
    refine ccI (As := [.int x1]) hx hb hml hts hown hK hP hD hS hA hZ (X := 12) (by decide) rfl (ckE_some hw_5) (sc_X11_change l dC dI cB cI cJ cZ cS cO b K V fz F cs x0 x1 v_4 hv_4) (cw_X11_X11_change hts (fr := 0) (Nat.le_of_ble_eq_true rfl) (Nat.le_of_ble_eq_true rfl)) rfl hl.1 (Nat.le_of_ble_eq_true rfl) ⟨Nat.zero_le _, Nat.zero_le _⟩ dX11_changed_15 (fun H locs hP hD hS => ?_)
    refine lv_if_ge (tgt := 32) hx hb dX11_changed_18 (by decide) (fun c_6 => ?_) (fun c_6 => ?_)
    · skip
      replace h := (if_pos c_6).symm.trans h
      refine lv_aload_n hx hb dX11_changed_32 rfl (lv_at hl 1 rfl) ?_
      replace h := ob h; obtain ⟨v_7, hv_7, h⟩ := h
      refine fg_X11_37 hx hb hts hown hK hP hv_7 dX11_changed_33 ?_
      refine lv_iload_n hx hb dX11_changed_36 rfl (lv_at hl 0 rfl) ?_
      replace h := ob h; obtain ⟨i_9, hi_9, h⟩ := h
      subst hi_9
      replace h := ob h; obtain ⟨w_10, hw_10, h⟩ := h
      replace h := ob h; obtain ⟨v_8, hv_8, h⟩ := h
      refine ccL (As := [.int v_1]) hx hb hml hts hown hK hP hD hS hA hZ (X := 9) (by decide) rfl (ckE_some hw_10) (sc_X8_valueOf l dC dI cB cI cJ cZ cS cO b K V fz F cs i_9 v_1 v_8 hv_8) (cw_X11_X8_valueOf hts (fr := 1) (Nat.le_of_ble_eq_true rfl) (Nat.le_of_ble_eq_true rfl)) rfl hl.1 (Nat.le_of_ble_eq_true rfl) ⟨Nat.zero_le _, Nat.zero_le _⟩ dX11_changed_37 (fun H locs hP hD hS => ?_)
      exact B_40 v_8 h _ _ _ hP hD hS (lv_sub hl [] rfl)
    · skip
      replace h := (if_neg c_6).symm.trans h
      refine lv_aload_n hx hb dX11_changed_21 rfl (lv_at hl 1 rfl) ?_
      replace h := ob h; obtain ⟨v_11, hv_11, h⟩ := h
      refine fg_X11_40 hx hb hts hown hK hP hv_11 dX11_changed_22 ?_
      refine lv_iload_n hx hb dX11_changed_25 rfl (lv_at hl 0 rfl) ?_
      replace h := ob h; obtain ⟨i_13, hi_13, h⟩ := h
      subst hi_13
      replace h := ob h; obtain ⟨w_14, hw_14, h⟩ := h
      replace h := ob h; obtain ⟨v_12, hv_12, h⟩ := h
      refine ccL (As := [.int v_1]) hx hb hml hts hown hK hP hD hS hA hZ (X := 9) (by decide) rfl (ckE_some hw_14) (sc_X8_valueOf l dC dI cB cI cJ cZ cS cO b K V fz F cs i_13 v_1 v_12 hv_12) (cw_X11_X8_valueOf hts (fr := 1) (Nat.le_of_ble_eq_true rfl) (Nat.le_of_ble_eq_true rfl)) rfl hl.1 (Nat.le_of_ble_eq_true rfl) ⟨Nat.zero_le _, Nat.zero_le _⟩ dX11_changed_26 (fun H locs hP hD hS => ?_)
      refine lv_goto (tgt := 40) hx hb dX11_changed_29 (by decide) ?_
      exact B_40 v_12 h _ _ _ hP hD hS (lv_sub hl [] rfl)
  · skip
    replace h := (if_neg c_3).symm.trans h
    refine lv_lconst (v := 0) hx hb dX11_changed_11 (by decide) ?_
    have e2 := Option.some.inj h
    exact W.lret (v := 0) hx hb hr (fun t_ ht hW => ⟨⟨0, (), rfl, e2, by rw [ht]; exact hP, hD⟩, hS.F ht⟩) hS.2.2 dX11_changed_12
theorem dX11_changedNull_0 : decode cX11_changedNull 0 = .ok (.aload_n 0, 1) := by decide +kernel
theorem dX11_changedNull_1 : decode cX11_changedNull 1 = .ok (.iload_n 1, 1) := by decide +kernel
theorem dX11_changedNull_2 : decode cX11_changedNull 2 = .ok (.iload_n 2, 1) := by decide +kernel
theorem dX11_changedNull_3 : decode cX11_changedNull 3 = .ok (.invokevirtual 147, 3) := by decide +kernel
theorem dX11_changedNull_6 : decode cX11_changedNull 6 = .ok (.istore_n 3, 1) := by decide +kernel
theorem dX11_changedNull_7 : decode cX11_changedNull 7 = .ok (.iload_n 3, 1) := by decide +kernel
theorem dX11_changedNull_8 : decode cX11_changedNull 8 = .ok (.ifCond .ge 5, 3) := by decide +kernel
theorem dX11_changedNull_11 : decode cX11_changedNull 11 = .ok (.iconst 0, 1) := by decide +kernel
theorem dX11_changedNull_12 : decode cX11_changedNull 12 = .ok (.ireturn, 1) := by decide +kernel
theorem dX11_changedNull_13 : decode cX11_changedNull 13 = .ok (.aload_n 0, 1) := by decide +kernel
theorem dX11_changedNull_14 : decode cX11_changedNull 14 = .ok (.iload_n 1, 1) := by decide +kernel
theorem dX11_changedNull_15 : decode cX11_changedNull 15 = .ok (.invokevirtual 151, 3) := by decide +kernel
theorem dX11_changedNull_18 : decode cX11_changedNull 18 = .ok (.ifCond .ge 14, 3) := by decide +kernel
theorem dX11_changedNull_21 : decode cX11_changedNull 21 = .ok (.aload_n 0, 1) := by decide +kernel
theorem dX11_changedNull_22 : decode cX11_changedNull 22 = .ok (.getfield 40, 3) := by decide +kernel
theorem dX11_changedNull_25 : decode cX11_changedNull 25 = .ok (.iload_n 3, 1) := by decide +kernel
theorem dX11_changedNull_26 : decode cX11_changedNull 26 = .ok (.invokevirtual 158, 3) := by decide +kernel
theorem dX11_changedNull_29 : decode cX11_changedNull 29 = .ok (.goto 11, 3) := by decide +kernel
theorem dX11_changedNull_32 : decode cX11_changedNull 32 = .ok (.aload_n 0, 1) := by decide +kernel
theorem dX11_changedNull_33 : decode cX11_changedNull 33 = .ok (.getfield 37, 3) := by decide +kernel
theorem dX11_changedNull_36 : decode cX11_changedNull 36 = .ok (.iload_n 3, 1) := by decide +kernel
theorem dX11_changedNull_37 : decode cX11_changedNull 37 = .ok (.invokevirtual 158, 3) := by decide +kernel
theorem dX11_changedNull_40 : decode cX11_changedNull 40 = .ok (.ireturn, 1) := by decide +kernel
def c_X11_changedNull_b40 (F : Nat) (cs : CS) (y0 : Int32) : Option Int32 := Option.bind (ckZ y0) fun _ => some y0
def c_X11_changedNull (F : Nat) (cs : CS) (x0 : Nat) (x1 : Int32) (x2 : Int32) : Option Int32 := Option.bind (ckE cs 12 x0) fun _ => Option.bind (c_X11_changeCell F cs x0 x1 x2) fun v_2 => if 0 ≤ v_2 then (Option.bind (ckE cs 12 x0) fun _ => Option.bind (c_X11_change F cs x0 x1) fun v_5 => if 0 ≤ v_5 then (Option.bind (gR cs 12 393 x0) fun v_8 => Option.bind (v_8) fun i_10 => Option.bind (ckE cs 9 i_10) fun _ => Option.bind (c_X8_isBlank F cs i_10 v_2) fun v_9 => c_X11_changedNull_b40 F cs v_9) else (Option.bind (gR cs 12 394 x0) fun v_12 => Option.bind (v_12) fun i_14 => Option.bind (ckE cs 9 i_14) fun _ => Option.bind (c_X8_isBlank F cs i_14 v_2) fun v_13 => c_X11_changedNull_b40 F cs v_13)) else (some 0)
set_option maxHeartbeats 4000000 in
set_option maxRecDepth 100000 in
theorem sc_X11_changedNull (l : Launch) (dC : Nat → ClassId) (dI : Nat → Nat → Nat) (cB cI cJ cZ cS cO : ClassId) (b : Nat) (K V : Nat → Nat) (fz : Value) (F : Nat) (cs : CS) (x0 : Nat) (x1 : Int32) (x2 : Int32) (r9 : Int32) (hf : c_X11_changedNull F cs x0 x1 x2 = some r9) : ocI l dC dI cB cI cJ cZ cS cO b K V fz yX11_changedNull (wsOf yX11_changedNull cX11_changedNull 4 (some .boolean)) (2) [.ref (b + x0), .int x1, .int x2] cs cs r9 := by
  intro sz
  refine Met.ofW (cc := cX11_changedNull) (maxL := 4) (ret := (some .boolean)) (by decide) rfl ?_
  intro p e s m args below meth c s₁ B hml hv
  obtain ⟨rfl, hsz, hP, hK, hD0, hZ⟩ := hv
  have hx := B.exec
  have hb := B.bytes
  have hr := B.returns
  have hts := atoms_spec (ws := (wsOf yX11_changedNull cX11_changedNull 4 (some .boolean))) B.pre
  have hown : s.vm.findClass RX11 = some m.cls := findClass_of_methodNamed B.named
  have hlocks := B.notSynchronized
  subst hsz
  have hD := hD0.self (sz := s.heap.size)
  generalize hAe : va_A (cW cB cI cJ cZ cS cO b cs) s.heap.size = A at hD hZ ⊢
  have hA : ∀ q : Nat, s.heap.size ≤ q → A q := fun q h => by rw [← hAe]; exact Or.inr h
  have hS : va_S A s.heap s.heap [] := va_S.rf
  have hl := lv_entry ([.ref (b + x0), .int x1, .int x2]) (n := 4) (Nat.le_of_ble_eq_true rfl)
  rw [lg_entry_eq]
  generalize (lg_sl ([.ref (b + x0), .int x1, .int x2]) ++ List.replicate (4 - (lg_sl ([.ref (b + x0), .int x1, .int x2])).length) Slot.unset).toArray = ls at hl ⊢
  have hl : lv_has ls 4 [(0, .ref (b + x0)), (1, .int x1), (2, .int x2)] := hl
  have B_40 : ∀ (y0 : Int32), c_X11_changedNull_b40 F cs y0 = some r9 → ∀ (H : Heap) (locs : List Loc) (ls : Array Slot), va_P (dC, dI) vwCl (cW cB cI cJ cZ cS cO b cs) H → va_D A (cW cB cI cJ cZ cS cO b cs) → va_S A s.heap H locs → lv_has ls 4 [] → W p l e (headSpec (wsOf yX11_changedNull cX11_changedNull 4 (some .boolean)) ({ frames := 2, cells := 0, slots := 0, locals := 60 * (2) } : Room)).room s m ([.ref (b + x0), .int x1, .int x2] : List Value).toArray below meth c H locs 0 0 (MQ below (va_Qi (fun (x : Int32) (_ : Unit) => x = r9) (fun _ t_ => va_P (dC, dI) vwCl (cW cB cI cJ cZ cS cO b cs) t_.heap ∧ va_D A (cW cB cI cJ cZ cS cO b cs)) A) ([.ref (b + x0), .int x1, .int x2] : List Value).toArray s 0 0 A) (F0 m 40 ls [.int y0]) := by
    intro y0 h H locs ls hP hD hS hl
    unfold c_X11_changedNull_b40 at h
    replace h := ob h; obtain ⟨w_1, hw_1, h⟩ := h
    have e2 := Option.some.inj h
    exact W.zret (v := y0) hx hb hr (nzN (ckZ_some hw_1)) (fun t_ ht hW => ⟨⟨y0, (), rfl, e2, by rw [ht]; exact hP, hD⟩, hS.F ht⟩) hS.2.2 dX11_changedNull_40
  have h := hf
  unfold c_X11_changedNull at h
  refine lv_aload_n hx hb dX11_changedNull_0 rfl (lv_at hl 0 rfl) ?_
  refine lv_iload_n hx hb dX11_changedNull_1 rfl (lv_at hl 1 rfl) ?_
  refine lv_iload_n hx hb dX11_changedNull_2 rfl (lv_at hl 2 rfl) ?_
  replace h := ob h; obtain ⟨w_3, hw_3, h⟩ := h
  replace h := ob h; obtain ⟨v_2, hv_2, h⟩ := h
  refine ccI (As := [.int x1, .int x2]) hx hb hml hts hown hK hP hD hS hA hZ (X := 12) (by decide) rfl (ckE_some hw_3) (sc_X11_changeCell l dC dI cB cI cJ cZ cS cO b K V fz F cs x0 x1 x2 v_2 hv_2) (cw_X11_X11_changeCell hts (fr := 1) (Nat.le_of_ble_eq_true rfl) (Nat.le_of_ble_eq_true rfl)) rfl hl.1 (Nat.le_of_ble_eq_true rfl) ⟨Nat.zero_le _, Nat.zero_le _⟩ dX11_changedNull_3 (fun H locs hP hD hS => ?_)
  refine lv_istore_n (lv' := [(3, .int v_2), (0, .ref (b + x0)), (1, .int x1), (2, .int x2)]) hx hb dX11_changedNull_6 rfl hl (by decide) rfl (fun ls hl => ?_)
  refine lv_iload_n hx hb dX11_changedNull_7 rfl (lv_at hl 0 rfl) ?_
  refine lv_if_ge (tgt := 13) hx hb dX11_changedNull_8 (by decide) (fun c_4 => ?_) (fun c_4 => ?_)
  · skip
    replace h := (if_pos c_4).symm.trans h
    refine lv_aload_n hx hb dX11_changedNull_13 rfl (lv_at hl 1 rfl) ?_
    refine lv_iload_n hx hb dX11_changedNull_14 rfl (lv_at hl 2 rfl) ?_
    replace h := ob h; obtain ⟨w_6, hw_6, h⟩ := h
    replace h := ob h; obtain ⟨v_5, hv_5, h⟩ := h
    refine ccI (As := [.int x1]) hx hb hml hts hown hK hP hD hS hA hZ (X := 12) (by decide) rfl (ckE_some hw_6) (sc_X11_change l dC dI cB cI cJ cZ cS cO b K V fz F cs x0 x1 v_5 hv_5) (cw_X11_X11_change hts (fr := 0) (Nat.le_of_ble_eq_true rfl) (Nat.le_of_ble_eq_true rfl)) rfl hl.1 (Nat.le_of_ble_eq_true rfl) ⟨Nat.zero_le _, Nat.zero_le _⟩ dX11_changedNull_15 (fun H locs hP hD hS => ?_)
    refine lv_if_ge (tgt := 32) hx hb dX11_changedNull_18 (by decide) (fun c_7 => ?_) (fun c_7 => ?_)
    · skip
      replace h := (if_pos c_7).symm.trans h
      refine lv_aload_n hx hb dX11_changedNull_32 rfl (lv_at hl 1 rfl) ?_
      replace h := ob h; obtain ⟨v_8, hv_8, h⟩ := h
      refine fg_X11_37 hx hb hts hown hK hP hv_8 dX11_changedNull_33 ?_
      refine lv_iload_n hx hb dX11_changedNull_36 rfl (lv_at hl 0 rfl) ?_
      replace h := ob h; obtain ⟨i_10, hi_10, h⟩ := h
      subst hi_10
      replace h := ob h; obtain ⟨w_11, hw_11, h⟩ := h
      replace h := ob h; obtain ⟨v_9, hv_9, h⟩ := h
      refine ccI (As := [.int v_2]) hx hb hml hts hown hK hP hD hS hA hZ (X := 9) (by decide) rfl (ckE_some hw_11) (sc_X8_isBlank l dC dI cB cI cJ cZ cS cO b K V fz F cs i_10 v_2 v_9 hv_9) (cw_X11_X8_isBlank hts (fr := 1) (Nat.le_of_ble_eq_true rfl) (Nat.le_of_ble_eq_true rfl)) rfl hl.1 (Nat.le_of_ble_eq_true rfl) ⟨Nat.zero_le _, Nat.zero_le _⟩ dX11_changedNull_37 (fun H locs hP hD hS => ?_)
      exact B_40 v_9 h _ _ _ hP hD hS (lv_sub hl [] rfl)
    · skip
      replace h := (if_neg c_7).symm.trans h
      refine lv_aload_n hx hb dX11_changedNull_21 rfl (lv_at hl 1 rfl) ?_
      replace h := ob h; obtain ⟨v_12, hv_12, h⟩ := h
      refine fg_X11_40 hx hb hts hown hK hP hv_12 dX11_changedNull_22 ?_
      refine lv_iload_n hx hb dX11_changedNull_25 rfl (lv_at hl 0 rfl) ?_
      replace h := ob h; obtain ⟨i_14, hi_14, h⟩ := h
      subst hi_14
      replace h := ob h; obtain ⟨w_15, hw_15, h⟩ := h
      replace h := ob h; obtain ⟨v_13, hv_13, h⟩ := h
      refine ccI (As := [.int v_2]) hx hb hml hts hown hK hP hD hS hA hZ (X := 9) (by decide) rfl (ckE_some hw_15) (sc_X8_isBlank l dC dI cB cI cJ cZ cS cO b K V fz F cs i_14 v_2 v_13 hv_13) (cw_X11_X8_isBlank hts (fr := 1) (Nat.le_of_ble_eq_true rfl) (Nat.le_of_ble_eq_true rfl)) rfl hl.1 (Nat.le_of_ble_eq_true rfl) ⟨Nat.zero_le _, Nat.zero_le _⟩ dX11_changedNull_26 (fun H locs hP hD hS => ?_)
      refine lv_goto (tgt := 40) hx hb dX11_changedNull_29 (by decide) ?_
      exact B_40 v_13 h _ _ _ hP hD hS (lv_sub hl [] rfl)
  · skip
    replace h := (if_neg c_4).symm.trans h
    refine lv_iconst (v := 0) hx hb dX11_changedNull_11 (by decide) ?_
    have e2 := Option.some.inj h
    exact W.zret (v := 0) hx hb hr (nzN (Or.inl rfl)) (fun t_ ht hW => ⟨⟨0, (), rfl, e2, by rw [ht]; exact hP, hD⟩, hS.F ht⟩) hS.2.2 dX11_changedNull_12
theorem dX11_rows_0 : decode cX11_rows 0 = .ok (.aload_n 0, 1) := by decide +kernel
theorem dX11_rows_1 : decode cX11_rows 1 = .ok (.getfield 162, 3) := by decide +kernel
theorem dX11_rows_4 : decode cX11_rows 4 = .ok (.ireturn, 1) := by decide +kernel
def c_X11_rows (F : Nat) (cs : CS) (x0 : Nat) : Option Int32 := Option.bind (gI cs 12 395 x0) fun v_1 => some v_1
set_option maxHeartbeats 4000000 in
set_option maxRecDepth 100000 in
theorem sc_X11_rows (l : Launch) (dC : Nat → ClassId) (dI : Nat → Nat → Nat) (cB cI cJ cZ cS cO : ClassId) (b : Nat) (K V : Nat → Nat) (fz : Value) (F : Nat) (cs : CS) (x0 : Nat) (r9 : Int32) (hf : c_X11_rows F cs x0 = some r9) : ocI l dC dI cB cI cJ cZ cS cO b K V fz yX11_rows (wsOf yX11_rows cX11_rows 1 (some .int)) (0) [.ref (b + x0)] cs cs r9 := by
  intro sz
  refine Met.ofW (cc := cX11_rows) (maxL := 1) (ret := (some .int)) (by decide) rfl ?_
  intro p e s m args below meth c s₁ B hml hv
  obtain ⟨rfl, hsz, hP, hK, hD0, hZ⟩ := hv
  have hx := B.exec
  have hb := B.bytes
  have hr := B.returns
  have hts := atoms_spec (ws := (wsOf yX11_rows cX11_rows 1 (some .int))) B.pre
  have hown : s.vm.findClass RX11 = some m.cls := findClass_of_methodNamed B.named
  have hlocks := B.notSynchronized
  subst hsz
  have hD := hD0.self (sz := s.heap.size)
  generalize hAe : va_A (cW cB cI cJ cZ cS cO b cs) s.heap.size = A at hD hZ ⊢
  have hA : ∀ q : Nat, s.heap.size ≤ q → A q := fun q h => by rw [← hAe]; exact Or.inr h
  have hS : va_S A s.heap s.heap [] := va_S.rf
  have hl := lv_entry ([.ref (b + x0)]) (n := 1) (Nat.le_of_ble_eq_true rfl)
  rw [lg_entry_eq]
  generalize (lg_sl ([.ref (b + x0)]) ++ List.replicate (1 - (lg_sl ([.ref (b + x0)])).length) Slot.unset).toArray = ls at hl ⊢
  have hl : lv_has ls 1 [(0, .ref (b + x0))] := hl
  have h := hf
  unfold c_X11_rows at h
  refine lv_aload_n hx hb dX11_rows_0 rfl (lv_at hl 0 rfl) ?_
  replace h := ob h; obtain ⟨v_1, hv_1, h⟩ := h
  refine fg_X11_162 hx hb hts hown hK hP hv_1 dX11_rows_1 ?_
  have e2 := Option.some.inj h
  exact W.iret (v := v_1) hx hb hr (fun t_ ht hW => ⟨⟨v_1, (), rfl, e2, by rw [ht]; exact hP, hD⟩, hS.F ht⟩) hS.2.2 dX11_rows_4
theorem dX11_answerCell_0 : decode cX11_answerCell 0 = .ok (.iload_n 1, 1) := by decide +kernel
theorem dX11_answerCell_1 : decode cX11_answerCell 1 = .ok (.ifCond .lt 23, 3) := by decide +kernel
theorem dX11_answerCell_4 : decode cX11_answerCell 4 = .ok (.iload_n 1, 1) := by decide +kernel
theorem dX11_answerCell_5 : decode cX11_answerCell 5 = .ok (.aload_n 0, 1) := by decide +kernel
theorem dX11_answerCell_6 : decode cX11_answerCell 6 = .ok (.getfield 162, 3) := by decide +kernel
theorem dX11_answerCell_9 : decode cX11_answerCell 9 = .ok (.if_icmp .ge 15, 3) := by decide +kernel
theorem dX11_answerCell_12 : decode cX11_answerCell 12 = .ok (.iload_n 2, 1) := by decide +kernel
theorem dX11_answerCell_13 : decode cX11_answerCell 13 = .ok (.ifCond .lt 11, 3) := by decide +kernel
theorem dX11_answerCell_16 : decode cX11_answerCell 16 = .ok (.iload_n 2, 1) := by decide +kernel
theorem dX11_answerCell_17 : decode cX11_answerCell 17 = .ok (.aload_n 0, 1) := by decide +kernel
theorem dX11_answerCell_18 : decode cX11_answerCell 18 = .ok (.invokevirtual 127, 3) := by decide +kernel
theorem dX11_answerCell_21 : decode cX11_answerCell 21 = .ok (.if_icmp .lt 5, 3) := by decide +kernel
theorem dX11_answerCell_24 : decode cX11_answerCell 24 = .ok (.iconst (-1), 1) := by decide +kernel
theorem dX11_answerCell_25 : decode cX11_answerCell 25 = .ok (.ireturn, 1) := by decide +kernel
theorem dX11_answerCell_26 : decode cX11_answerCell 26 = .ok (.iload_n 1, 1) := by decide +kernel
theorem dX11_answerCell_27 : decode cX11_answerCell 27 = .ok (.aload_n 0, 1) := by decide +kernel
theorem dX11_answerCell_28 : decode cX11_answerCell 28 = .ok (.invokevirtual 127, 3) := by decide +kernel
theorem dX11_answerCell_31 : decode cX11_answerCell 31 = .ok (.imul, 1) := by decide +kernel
theorem dX11_answerCell_32 : decode cX11_answerCell 32 = .ok (.iload_n 2, 1) := by decide +kernel
theorem dX11_answerCell_33 : decode cX11_answerCell 33 = .ok (.iadd, 1) := by decide +kernel
theorem dX11_answerCell_34 : decode cX11_answerCell 34 = .ok (.ireturn, 1) := by decide +kernel
def c_X11_answerCell_b24 (F : Nat) (cs : CS) : Option Int32 := some (-1)
def c_X11_answerCell (F : Nat) (cs : CS) (x0 : Nat) (x1 : Int32) (x2 : Int32) : Option Int32 := if x1 < 0 then (c_X11_answerCell_b24 F cs ) else (Option.bind (gI cs 12 395 x0) fun v_2 => if v_2 ≤ x1 then (c_X11_answerCell_b24 F cs ) else (if x2 < 0 then (c_X11_answerCell_b24 F cs ) else (Option.bind (ckE cs 12 x0) fun _ => Option.bind (c_X11_width F cs x0) fun v_5 => if x2 < v_5 then (Option.bind (ckE cs 12 x0) fun _ => Option.bind (c_X11_width F cs x0) fun v_8 => some ((x1 * v_8) + x2)) else (c_X11_answerCell_b24 F cs ))))
theorem cw_X11_X11_answerCell {R : Room} {s : State} {args : Array Value} {y0 : MethodName} {c0 : ByteArray} {n0 : Nat} {r0 : Option FieldType} (hts : ∀ w ∈ wsOf y0 c0 n0 r0, w.before args s = true) {fr : Nat} (h1 : fr + 1 ≤ R.frames) (h2 : 8 + (3 + 11) + 60 * fr ≤ R.locals) : CallW R s args RX11 RX11 165 yX11_answerCell cX11_answerCell 3 (some .int) (wsOf yX11_answerCell cX11_answerCell 3 (some .int)) ({ frames := fr, cells := 0, slots := 0, locals := 60 * fr } : Room) 0 0 2 := cwV 2 hts (gd_all (in_V kw_1642 kw_1644 kw_95 kw_181 kc_X11_answerCell)) rfl rfl rfl (by decide +kernel) ⟨h1, h2⟩
set_option maxHeartbeats 4000000 in
set_option maxRecDepth 100000 in
theorem sc_X11_answerCell (l : Launch) (dC : Nat → ClassId) (dI : Nat → Nat → Nat) (cB cI cJ cZ cS cO : ClassId) (b : Nat) (K V : Nat → Nat) (fz : Value) (F : Nat) (cs : CS) (x0 : Nat) (x1 : Int32) (x2 : Int32) (r9 : Int32) (hf : c_X11_answerCell F cs x0 x1 x2 = some r9) : ocI l dC dI cB cI cJ cZ cS cO b K V fz yX11_answerCell (wsOf yX11_answerCell cX11_answerCell 3 (some .int)) (1) [.ref (b + x0), .int x1, .int x2] cs cs r9 := by
  intro sz
  refine Met.ofW (cc := cX11_answerCell) (maxL := 3) (ret := (some .int)) (by decide) rfl ?_
  intro p e s m args below meth c s₁ B hml hv
  obtain ⟨rfl, hsz, hP, hK, hD0, hZ⟩ := hv
  have hx := B.exec
  have hb := B.bytes
  have hr := B.returns
  have hts := atoms_spec (ws := (wsOf yX11_answerCell cX11_answerCell 3 (some .int))) B.pre
  have hown : s.vm.findClass RX11 = some m.cls := findClass_of_methodNamed B.named
  have hlocks := B.notSynchronized
  subst hsz
  have hD := hD0.self (sz := s.heap.size)
  generalize hAe : va_A (cW cB cI cJ cZ cS cO b cs) s.heap.size = A at hD hZ ⊢
  have hA : ∀ q : Nat, s.heap.size ≤ q → A q := fun q h => by rw [← hAe]; exact Or.inr h
  have hS : va_S A s.heap s.heap [] := va_S.rf
  have hl := lv_entry ([.ref (b + x0), .int x1, .int x2]) (n := 3) (Nat.le_of_ble_eq_true rfl)
  rw [lg_entry_eq]
  generalize (lg_sl ([.ref (b + x0), .int x1, .int x2]) ++ List.replicate (3 - (lg_sl ([.ref (b + x0), .int x1, .int x2])).length) Slot.unset).toArray = ls at hl ⊢
  have hl : lv_has ls 3 [(0, .ref (b + x0)), (1, .int x1), (2, .int x2)] := hl
  have B_24 : c_X11_answerCell_b24 F cs = some r9 → ∀ (H : Heap) (locs : List Loc) (ls : Array Slot), va_P (dC, dI) vwCl (cW cB cI cJ cZ cS cO b cs) H → va_D A (cW cB cI cJ cZ cS cO b cs) → va_S A s.heap H locs → lv_has ls 3 [] → W p l e (headSpec (wsOf yX11_answerCell cX11_answerCell 3 (some .int)) ({ frames := 1, cells := 0, slots := 0, locals := 60 * (1) } : Room)).room s m ([.ref (b + x0), .int x1, .int x2] : List Value).toArray below meth c H locs 0 0 (MQ below (va_Qi (fun (x : Int32) (_ : Unit) => x = r9) (fun _ t_ => va_P (dC, dI) vwCl (cW cB cI cJ cZ cS cO b cs) t_.heap ∧ va_D A (cW cB cI cJ cZ cS cO b cs)) A) ([.ref (b + x0), .int x1, .int x2] : List Value).toArray s 0 0 A) (F0 m 24 ls []) := by
    intro  h H locs ls hP hD hS hl
    unfold c_X11_answerCell_b24 at h
    refine lv_iconst (v := (-1)) hx hb dX11_answerCell_24 (by decide) ?_
    have e2 := Option.some.inj h
    exact W.iret (v := (-1)) hx hb hr (fun t_ ht hW => ⟨⟨(-1), (), rfl, e2, by rw [ht]; exact hP, hD⟩, hS.F ht⟩) hS.2.2 dX11_answerCell_25
  have h := hf
  unfold c_X11_answerCell at h
  refine lv_iload_n hx hb dX11_answerCell_0 rfl (lv_at hl 1 rfl) ?_
  refine lv_if_lt (tgt := 24) hx hb dX11_answerCell_1 (by decide) (fun c_1 => ?_) (fun c_1 => ?_)
  · skip
    replace h := (if_pos c_1).symm.trans h
    exact B_24  h _ _ _ hP hD hS (lv_sub hl [] rfl)
  · skip
    replace h := (if_neg c_1).symm.trans h
    refine lv_iload_n hx hb dX11_answerCell_4 rfl (lv_at hl 1 rfl) ?_
    refine lv_aload_n hx hb dX11_answerCell_5 rfl (lv_at hl 0 rfl) ?_
    replace h := ob h; obtain ⟨v_2, hv_2, h⟩ := h
    refine fg_X11_162 hx hb hts hown hK hP hv_2 dX11_answerCell_6 ?_
    refine lv_icmp_ge (tgt := 24) hx hb dX11_answerCell_9 (by decide) (fun c_3 => ?_) (fun c_3 => ?_)
    · skip
      replace h := (if_pos c_3).symm.trans h
      exact B_24  h _ _ _ hP hD hS (lv_sub hl [] rfl)
    · skip
      replace h := (if_neg c_3).symm.trans h
      refine lv_iload_n hx hb dX11_answerCell_12 rfl (lv_at hl 2 rfl) ?_
      refine lv_if_lt (tgt := 24) hx hb dX11_answerCell_13 (by decide) (fun c_4 => ?_) (fun c_4 => ?_)
      · skip
        replace h := (if_pos c_4).symm.trans h
        exact B_24  h _ _ _ hP hD hS (lv_sub hl [] rfl)
      · skip
        replace h := (if_neg c_4).symm.trans h
        refine lv_iload_n hx hb dX11_answerCell_16 rfl (lv_at hl 2 rfl) ?_
        refine lv_aload_n hx hb dX11_answerCell_17 rfl (lv_at hl 0 rfl) ?_
        replace h := ob h; obtain ⟨w_6, hw_6, h⟩ := h
        replace h := ob h; obtain ⟨v_5, hv_5, h⟩ := h
        refine ccI (As := []) hx hb hml hts hown hK hP hD hS hA hZ (X := 12) (by decide) rfl (ckE_some hw_6) (sc_X11_width l dC dI cB cI cJ cZ cS cO b K V fz F cs x0 v_5 hv_5) (cw_X11_X11_width hts (fr := 0) (Nat.le_of_ble_eq_true rfl) (Nat.le_of_ble_eq_true rfl)) rfl hl.1 (Nat.le_of_ble_eq_true rfl) ⟨Nat.zero_le _, Nat.zero_le _⟩ dX11_answerCell_18 (fun H locs hP hD hS => ?_)
        refine lv_icmp_lt (tgt := 26) hx hb dX11_answerCell_21 (by decide) (fun c_7 => ?_) (fun c_7 => ?_)
        · skip
          replace h := (if_pos c_7).symm.trans h
          refine lv_iload_n hx hb dX11_answerCell_26 rfl (lv_at hl 1 rfl) ?_
          refine lv_aload_n hx hb dX11_answerCell_27 rfl (lv_at hl 0 rfl) ?_
          replace h := ob h; obtain ⟨w_9, hw_9, h⟩ := h
          replace h := ob h; obtain ⟨v_8, hv_8, h⟩ := h
          refine ccI (As := []) hx hb hml hts hown hK hP hD hS hA hZ (X := 12) (by decide) rfl (ckE_some hw_9) (sc_X11_width l dC dI cB cI cJ cZ cS cO b K V fz F cs x0 v_8 hv_8) (cw_X11_X11_width hts (fr := 0) (Nat.le_of_ble_eq_true rfl) (Nat.le_of_ble_eq_true rfl)) rfl hl.1 (Nat.le_of_ble_eq_true rfl) ⟨Nat.zero_le _, Nat.zero_le _⟩ dX11_answerCell_28 (fun H locs hP hD hS => ?_)
          refine lv_imul hx hb dX11_answerCell_31 ?_
          refine lv_iload_n hx hb dX11_answerCell_32 rfl (lv_at hl 2 rfl) ?_
          refine lv_iadd hx hb dX11_answerCell_33 ?_
          have e2 := Option.some.inj h
          exact W.iret (v := (x1 * v_8) + x2) hx hb hr (fun t_ ht hW => ⟨⟨(x1 * v_8) + x2, (), rfl, e2, by rw [ht]; exact hP, hD⟩, hS.F ht⟩) hS.2.2 dX11_answerCell_34
        · skip
          replace h := (if_neg c_7).symm.trans h
          exact B_24  h _ _ _ hP hD hS (lv_sub hl [] rfl)
theorem dX11_answerStrip_0 : decode cX11_answerStrip 0 = .ok (.aload_n 0, 1) := by decide +kernel
theorem dX11_answerStrip_1 : decode cX11_answerStrip 1 = .ok (.getfield 107, 3) := by decide +kernel
theorem dX11_answerStrip_4 : decode cX11_answerStrip 4 = .ok (.ifnull 23, 3) := by decide +kernel
theorem dX11_answerStrip_7 : decode cX11_answerStrip 7 = .ok (.aload_n 0, 1) := by decide +kernel
theorem dX11_answerStrip_8 : decode cX11_answerStrip 8 = .ok (.getfield 107, 3) := by decide +kernel
theorem dX11_answerStrip_11 : decode cX11_answerStrip 11 = .ok (.getfield 90, 3) := by decide +kernel
theorem dX11_answerStrip_14 : decode cX11_answerStrip 14 = .ok (.getfield 204, 3) := by decide +kernel
theorem dX11_answerStrip_17 : decode cX11_answerStrip 17 = .ok (.ifnull 10, 3) := by decide +kernel
theorem dX11_answerStrip_20 : decode cX11_answerStrip 20 = .ok (.aload_n 0, 1) := by decide +kernel
theorem dX11_answerStrip_21 : decode cX11_answerStrip 21 = .ok (.getfield 34, 3) := by decide +kernel
theorem dX11_answerStrip_24 : decode cX11_answerStrip 24 = .ok (.goto 7, 3) := by decide +kernel
theorem dX11_answerStrip_27 : decode cX11_answerStrip 27 = .ok (.aload_n 0, 1) := by decide +kernel
theorem dX11_answerStrip_28 : decode cX11_answerStrip 28 = .ok (.getfield 37, 3) := by decide +kernel
theorem dX11_answerStrip_31 : decode cX11_answerStrip 31 = .ok (.areturn, 1) := by decide +kernel
def c_X11_answerStrip_b31 (F : Nat) (cs : CS) (y0 : Option Nat) : Option Nat := Option.bind (y0) fun i_1 => some i_1
def c_X11_answerStrip_b27 (F : Nat) (cs : CS) (u0 : Nat) : Option Nat := Option.bind (gR cs 12 393 u0) fun v_2 => c_X11_answerStrip_b31 F cs v_2
def c_X11_answerStrip (F : Nat) (cs : CS) (x0 : Nat) : Option Nat := Option.bind (gR cs 12 389 x0) fun v_3 => oc v_3 (c_X11_answerStrip_b27 F cs x0) (fun i_4 => Option.bind (gR cs 12 389 x0) fun v_5 => Option.bind (v_5) fun i_6 => Option.bind (gR cs 10 323 i_6) fun v_7 => Option.bind (v_7) fun i_8 => Option.bind (gR cs 4 130 i_8) fun v_9 => oc v_9 (c_X11_answerStrip_b27 F cs x0) (fun i_10 => Option.bind (gR cs 12 392 x0) fun v_11 => c_X11_answerStrip_b31 F cs v_11))
theorem cw_X11_X11_answerStrip {R : Room} {s : State} {args : Array Value} {y0 : MethodName} {c0 : ByteArray} {n0 : Nat} {r0 : Option FieldType} (hts : ∀ w ∈ wsOf y0 c0 n0 r0, w.before args s = true) {fr : Nat} (h1 : fr + 1 ≤ R.frames) (h2 : 8 + (1 + 11) + 60 * fr ≤ R.locals) : CallW R s args RX11 RX11 168 yX11_answerStrip cX11_answerStrip 1 (some (.object "StreamQueries$Strip")) (wsOf yX11_answerStrip cX11_answerStrip 1 (some (.object "StreamQueries$Strip"))) ({ frames := fr, cells := 0, slots := 0, locals := 60 * fr } : Room) 0 0 0 := cwV 0 hts (gd_all (in_V kw_1646 kw_1648 kw_96 kw_181 kc_X11_answerStrip)) rfl rfl rfl (by decide +kernel) ⟨h1, h2⟩
set_option maxHeartbeats 4000000 in
set_option maxRecDepth 100000 in
theorem sc_X11_answerStrip (l : Launch) (dC : Nat → ClassId) (dI : Nat → Nat → Nat) (cB cI cJ cZ cS cO : ClassId) (b : Nat) (K V : Nat → Nat) (fz : Value) (F : Nat) (cs : CS) (x0 : Nat) (r9 : Nat) (hf : c_X11_answerStrip F cs x0 = some r9) : ocR l dC dI cB cI cJ cZ cS cO b K V fz yX11_answerStrip (wsOf yX11_answerStrip cX11_answerStrip 1 (some (.object "StreamQueries$Strip"))) (0) [.ref (b + x0)] cs cs r9 := by
  intro sz
  refine Met.ofW (cc := cX11_answerStrip) (maxL := 1) (ret := (some (.object "StreamQueries$Strip"))) (by decide) rfl ?_
  intro p e s m args below meth c s₁ B hml hv
  obtain ⟨rfl, hsz, hP, hK, hD0, hZ⟩ := hv
  have hx := B.exec
  have hb := B.bytes
  have hr := B.returns
  have hts := atoms_spec (ws := (wsOf yX11_answerStrip cX11_answerStrip 1 (some (.object "StreamQueries$Strip")))) B.pre
  have hown : s.vm.findClass RX11 = some m.cls := findClass_of_methodNamed B.named
  have hlocks := B.notSynchronized
  subst hsz
  have hD := hD0.self (sz := s.heap.size)
  generalize hAe : va_A (cW cB cI cJ cZ cS cO b cs) s.heap.size = A at hD hZ ⊢
  have hA : ∀ q : Nat, s.heap.size ≤ q → A q := fun q h => by rw [← hAe]; exact Or.inr h
  have hS : va_S A s.heap s.heap [] := va_S.rf
  have hl := lv_entry ([.ref (b + x0)]) (n := 1) (Nat.le_of_ble_eq_true rfl)
  rw [lg_entry_eq]
  generalize (lg_sl ([.ref (b + x0)]) ++ List.replicate (1 - (lg_sl ([.ref (b + x0)])).length) Slot.unset).toArray = ls at hl ⊢
  have hl : lv_has ls 1 [(0, .ref (b + x0))] := hl
  have B_31 : ∀ (y0 : Option Nat), c_X11_answerStrip_b31 F cs y0 = some r9 → ∀ (H : Heap) (locs : List Loc) (ls : Array Slot), va_P (dC, dI) vwCl (cW cB cI cJ cZ cS cO b cs) H → va_D A (cW cB cI cJ cZ cS cO b cs) → va_S A s.heap H locs → lv_has ls 1 [] → W p l e (headSpec (wsOf yX11_answerStrip cX11_answerStrip 1 (some (.object "StreamQueries$Strip"))) ({ frames := 0, cells := 0, slots := 0, locals := 60 * (0) } : Room)).room s m ([.ref (b + x0)] : List Value).toArray below meth c H locs 0 0 (MQ below (va_Qr (fun (_ : Unit) => True) (fun _ a_ t_ => a_ = b + r9 ∧ va_P (dC, dI) vwCl (cW cB cI cJ cZ cS cO b cs) t_.heap ∧ va_D A (cW cB cI cJ cZ cS cO b cs)) A) ([.ref (b + x0)] : List Value).toArray s 0 0 A) (F0 m 31 ls [rv b y0]) := by
    intro y0 h H locs ls hP hD hS hl
    unfold c_X11_answerStrip_b31 at h
    replace h := ob h; obtain ⟨i_1, hi_1, h⟩ := h
    subst hi_1
    have e2 := Option.some.inj h
    exact W.aret (v := .ref (b + i_1)) hx hb hr (Or.inl ⟨_, rfl⟩) (Or.inr ⟨_, rfl⟩) (fun t_ ht hW => ⟨⟨(), b + i_1, rfl, trivial, by rw [e2], by rw [ht]; exact hP, hD⟩, hS.F ht⟩) hS.2.2 dX11_answerStrip_31
  have B_27 : ∀ (u0 : Nat), c_X11_answerStrip_b27 F cs u0 = some r9 → ∀ (H : Heap) (locs : List Loc) (ls : Array Slot), va_P (dC, dI) vwCl (cW cB cI cJ cZ cS cO b cs) H → va_D A (cW cB cI cJ cZ cS cO b cs) → va_S A s.heap H locs → lv_has ls 1 [(0, .ref (b + u0))] → W p l e (headSpec (wsOf yX11_answerStrip cX11_answerStrip 1 (some (.object "StreamQueries$Strip"))) ({ frames := 0, cells := 0, slots := 0, locals := 60 * (0) } : Room)).room s m ([.ref (b + x0)] : List Value).toArray below meth c H locs 0 0 (MQ below (va_Qr (fun (_ : Unit) => True) (fun _ a_ t_ => a_ = b + r9 ∧ va_P (dC, dI) vwCl (cW cB cI cJ cZ cS cO b cs) t_.heap ∧ va_D A (cW cB cI cJ cZ cS cO b cs)) A) ([.ref (b + x0)] : List Value).toArray s 0 0 A) (F0 m 27 ls []) := by
    intro u0 h H locs ls hP hD hS hl
    unfold c_X11_answerStrip_b27 at h
    refine lv_aload_n hx hb dX11_answerStrip_27 rfl (lv_at hl 0 rfl) ?_
    replace h := ob h; obtain ⟨v_2, hv_2, h⟩ := h
    refine fg_X11_37 hx hb hts hown hK hP hv_2 dX11_answerStrip_28 ?_
    exact B_31 v_2 h _ _ _ hP hD hS (lv_sub hl [] rfl)
  have h := hf
  unfold c_X11_answerStrip at h
  refine lv_aload_n hx hb dX11_answerStrip_0 rfl (lv_at hl 0 rfl) ?_
  replace h := ob h; obtain ⟨v_3, hv_3, h⟩ := h
  refine fg_X11_107 hx hb hts hown hK hP hv_3 dX11_answerStrip_1 ?_
  cases v_3 with
  | none =>
    replace h := oc_n.symm.trans h
    refine lv_ifnullN (tgt := 27) hx hb dX11_answerStrip_4 (by decide) ?_
    exact B_27 x0 h _ _ _ hP hD hS (lv_sub hl [0] rfl)
  | some i_4 =>
    replace h := oc_s.symm.trans h
    refine lv_ifnull hx hb dX11_answerStrip_4 ?_
    refine lv_aload_n hx hb dX11_answerStrip_7 rfl (lv_at hl 0 rfl) ?_
    replace h := ob h; obtain ⟨v_5, hv_5, h⟩ := h
    refine fg_X11_107 hx hb hts hown hK hP hv_5 dX11_answerStrip_8 ?_
    replace h := ob h; obtain ⟨i_6, hi_6, h⟩ := h
    subst hi_6
    replace h := ob h; obtain ⟨v_7, hv_7, h⟩ := h
    refine fg_X11_90 hx hb hts hown hK hP hv_7 dX11_answerStrip_11 ?_
    replace h := ob h; obtain ⟨i_8, hi_8, h⟩ := h
    subst hi_8
    replace h := ob h; obtain ⟨v_9, hv_9, h⟩ := h
    refine fg_X11_204 hx hb hts hown hK hP hv_9 dX11_answerStrip_14 ?_
    cases v_9 with
    | none =>
      replace h := oc_n.symm.trans h
      refine lv_ifnullN (tgt := 27) hx hb dX11_answerStrip_17 (by decide) ?_
      exact B_27 x0 h _ _ _ hP hD hS (lv_sub hl [0] rfl)
    | some i_10 =>
      replace h := oc_s.symm.trans h
      refine lv_ifnull hx hb dX11_answerStrip_17 ?_
      refine lv_aload_n hx hb dX11_answerStrip_20 rfl (lv_at hl 0 rfl) ?_
      replace h := ob h; obtain ⟨v_11, hv_11, h⟩ := h
      refine fg_X11_34 hx hb hts hown hK hP hv_11 dX11_answerStrip_21 ?_
      refine lv_goto (tgt := 31) hx hb dX11_answerStrip_24 (by decide) ?_
      exact B_31 v_11 h _ _ _ hP hD hS (lv_sub hl [] rfl)
theorem dX11_at_0 : decode cX11_at 0 = .ok (.aload_n 0, 1) := by decide +kernel
theorem dX11_at_1 : decode cX11_at 1 = .ok (.iload_n 1, 1) := by decide +kernel
theorem dX11_at_2 : decode cX11_at 2 = .ok (.iload_n 2, 1) := by decide +kernel
theorem dX11_at_3 : decode cX11_at 3 = .ok (.invokevirtual 165, 3) := by decide +kernel
theorem dX11_at_6 : decode cX11_at 6 = .ok (.istore_n 3, 1) := by decide +kernel
theorem dX11_at_7 : decode cX11_at 7 = .ok (.iload_n 3, 1) := by decide +kernel
theorem dX11_at_8 : decode cX11_at 8 = .ok (.ifCond .ge 7, 3) := by decide +kernel
theorem dX11_at_11 : decode cX11_at 11 = .ok (.lconst 0, 1) := by decide +kernel
theorem dX11_at_12 : decode cX11_at 12 = .ok (.goto 11, 3) := by decide +kernel
theorem dX11_at_15 : decode cX11_at 15 = .ok (.aload_n 0, 1) := by decide +kernel
theorem dX11_at_16 : decode cX11_at 16 = .ok (.invokevirtual 168, 3) := by decide +kernel
theorem dX11_at_19 : decode cX11_at 19 = .ok (.iload_n 3, 1) := by decide +kernel
theorem dX11_at_20 : decode cX11_at 20 = .ok (.invokevirtual 154, 3) := by decide +kernel
theorem dX11_at_23 : decode cX11_at 23 = .ok (.lreturn, 1) := by decide +kernel
def c_X11_at_b23 (F : Nat) (cs : CS) (y0 : Int64) : Option Int64 := some y0
def c_X11_at (F : Nat) (cs : CS) (x0 : Nat) (x1 : Int32) (x2 : Int32) : Option Int64 := Option.bind (ckE cs 12 x0) fun _ => Option.bind (c_X11_answerCell F cs x0 x1 x2) fun v_1 => if 0 ≤ v_1 then (Option.bind (ckE cs 12 x0) fun _ => Option.bind (c_X11_answerStrip F cs x0) fun v_4 => Option.bind (ckE cs 9 v_4) fun _ => Option.bind (c_X8_valueOf F cs v_4 v_1) fun v_6 => c_X11_at_b23 F cs v_6) else (c_X11_at_b23 F cs 0)
set_option maxHeartbeats 4000000 in
set_option maxRecDepth 100000 in
theorem sc_X11_at (l : Launch) (dC : Nat → ClassId) (dI : Nat → Nat → Nat) (cB cI cJ cZ cS cO : ClassId) (b : Nat) (K V : Nat → Nat) (fz : Value) (F : Nat) (cs : CS) (x0 : Nat) (x1 : Int32) (x2 : Int32) (r9 : Int64) (hf : c_X11_at F cs x0 x1 x2 = some r9) : ocL l dC dI cB cI cJ cZ cS cO b K V fz yX11_at (wsOf yX11_at cX11_at 4 (some .long)) (2) [.ref (b + x0), .int x1, .int x2] cs cs r9 := by
  intro sz
  refine Met.ofW (cc := cX11_at) (maxL := 4) (ret := (some .long)) (by decide) rfl ?_
  intro p e s m args below meth c s₁ B hml hv
  obtain ⟨rfl, hsz, hP, hK, hD0, hZ⟩ := hv
  have hx := B.exec
  have hb := B.bytes
  have hr := B.returns
  have hts := atoms_spec (ws := (wsOf yX11_at cX11_at 4 (some .long))) B.pre
  have hown : s.vm.findClass RX11 = some m.cls := findClass_of_methodNamed B.named
  have hlocks := B.notSynchronized
  subst hsz
  have hD := hD0.self (sz := s.heap.size)
  generalize hAe : va_A (cW cB cI cJ cZ cS cO b cs) s.heap.size = A at hD hZ ⊢
  have hA : ∀ q : Nat, s.heap.size ≤ q → A q := fun q h => by rw [← hAe]; exact Or.inr h
  have hS : va_S A s.heap s.heap [] := va_S.rf
  have hl := lv_entry ([.ref (b + x0), .int x1, .int x2]) (n := 4) (Nat.le_of_ble_eq_true rfl)
  rw [lg_entry_eq]
  generalize (lg_sl ([.ref (b + x0), .int x1, .int x2]) ++ List.replicate (4 - (lg_sl ([.ref (b + x0), .int x1, .int x2])).length) Slot.unset).toArray = ls at hl ⊢
  have hl : lv_has ls 4 [(0, .ref (b + x0)), (1, .int x1), (2, .int x2)] := hl
  have B_23 : ∀ (y0 : Int64), c_X11_at_b23 F cs y0 = some r9 → ∀ (H : Heap) (locs : List Loc) (ls : Array Slot), va_P (dC, dI) vwCl (cW cB cI cJ cZ cS cO b cs) H → va_D A (cW cB cI cJ cZ cS cO b cs) → va_S A s.heap H locs → lv_has ls 4 [] → W p l e (headSpec (wsOf yX11_at cX11_at 4 (some .long)) ({ frames := 2, cells := 0, slots := 0, locals := 60 * (2) } : Room)).room s m ([.ref (b + x0), .int x1, .int x2] : List Value).toArray below meth c H locs 0 0 (MQ below (va_Ql (fun (x : Int64) (_ : Unit) => x = r9) (fun _ t_ => va_P (dC, dI) vwCl (cW cB cI cJ cZ cS cO b cs) t_.heap ∧ va_D A (cW cB cI cJ cZ cS cO b cs)) A) ([.ref (b + x0), .int x1, .int x2] : List Value).toArray s 0 0 A) (F0 m 23 ls [.long y0]) := by
    intro y0 h H locs ls hP hD hS hl
    unfold c_X11_at_b23 at h
    have e2 := Option.some.inj h
    exact W.lret (v := y0) hx hb hr (fun t_ ht hW => ⟨⟨y0, (), rfl, e2, by rw [ht]; exact hP, hD⟩, hS.F ht⟩) hS.2.2 dX11_at_23
  have h := hf
  unfold c_X11_at at h
  refine lv_aload_n hx hb dX11_at_0 rfl (lv_at hl 0 rfl) ?_
  refine lv_iload_n hx hb dX11_at_1 rfl (lv_at hl 1 rfl) ?_
  refine lv_iload_n hx hb dX11_at_2 rfl (lv_at hl 2 rfl) ?_
  replace h := ob h; obtain ⟨w_2, hw_2, h⟩ := h
  replace h := ob h; obtain ⟨v_1, hv_1, h⟩ := h
  refine ccI (As := [.int x1, .int x2]) hx hb hml hts hown hK hP hD hS hA hZ (X := 12) (by decide) rfl (ckE_some hw_2) (sc_X11_answerCell l dC dI cB cI cJ cZ cS cO b K V fz F cs x0 x1 x2 v_1 hv_1) (cw_X11_X11_answerCell hts (fr := 1) (Nat.le_of_ble_eq_true rfl) (Nat.le_of_ble_eq_true rfl)) rfl hl.1 (Nat.le_of_ble_eq_true rfl) ⟨Nat.zero_le _, Nat.zero_le _⟩ dX11_at_3 (fun H locs hP hD hS => ?_)
  refine lv_istore_n (lv' := [(3, .int v_1), (0, .ref (b + x0)), (1, .int x1), (2, .int x2)]) hx hb dX11_at_6 rfl hl (by decide) rfl (fun ls hl => ?_)
  refine lv_iload_n hx hb dX11_at_7 rfl (lv_at hl 0 rfl) ?_
  refine lv_if_ge (tgt := 15) hx hb dX11_at_8 (by decide) (fun c_3 => ?_) (fun c_3 => ?_)
  · skip
    replace h := (if_pos c_3).symm.trans h
    refine lv_aload_n hx hb dX11_at_15 rfl (lv_at hl 1 rfl) ?_
    replace h := ob h; obtain ⟨w_5, hw_5, h⟩ := h
    replace h := ob h; obtain ⟨v_4, hv_4, h⟩ := h
    refine ccR (As := []) hx hb hml hts hown hK hP hD hS hA hZ (X := 12) (by decide) rfl (ckE_some hw_5) (sc_X11_answerStrip l dC dI cB cI cJ cZ cS cO b K V fz F cs x0 v_4 hv_4) (cw_X11_X11_answerStrip hts (fr := 0) (Nat.le_of_ble_eq_true rfl) (Nat.le_of_ble_eq_true rfl)) rfl hl.1 (Nat.le_of_ble_eq_true rfl) ⟨Nat.zero_le _, Nat.zero_le _⟩ dX11_at_16 (fun H locs hP hD hS => ?_)
    refine lv_iload_n hx hb dX11_at_19 rfl (lv_at hl 0 rfl) ?_
    replace h := ob h; obtain ⟨w_7, hw_7, h⟩ := h
    replace h := ob h; obtain ⟨v_6, hv_6, h⟩ := h
    refine ccL (As := [.int v_1]) hx hb hml hts hown hK hP hD hS hA hZ (X := 9) (by decide) rfl (ckE_some hw_7) (sc_X8_valueOf l dC dI cB cI cJ cZ cS cO b K V fz F cs v_4 v_1 v_6 hv_6) (cw_X11_X8_valueOf hts (fr := 1) (Nat.le_of_ble_eq_true rfl) (Nat.le_of_ble_eq_true rfl)) rfl hl.1 (Nat.le_of_ble_eq_true rfl) ⟨Nat.zero_le _, Nat.zero_le _⟩ dX11_at_20 (fun H locs hP hD hS => ?_)
    exact B_23 v_6 h _ _ _ hP hD hS (lv_sub hl [] rfl)
  · skip
    replace h := (if_neg c_3).symm.trans h
    refine lv_lconst (v := 0) hx hb dX11_at_11 (by decide) ?_
    refine lv_goto (tgt := 23) hx hb dX11_at_12 (by decide) ?_
    exact B_23 0 h _ _ _ hP hD hS (lv_sub hl [] rfl)
theorem dX11_isNull_0 : decode cX11_isNull 0 = .ok (.aload_n 0, 1) := by decide +kernel
theorem dX11_isNull_1 : decode cX11_isNull 1 = .ok (.iload_n 1, 1) := by decide +kernel
theorem dX11_isNull_2 : decode cX11_isNull 2 = .ok (.iload_n 2, 1) := by decide +kernel
theorem dX11_isNull_3 : decode cX11_isNull 3 = .ok (.invokevirtual 165, 3) := by decide +kernel
theorem dX11_isNull_6 : decode cX11_isNull 6 = .ok (.istore_n 3, 1) := by decide +kernel
theorem dX11_isNull_7 : decode cX11_isNull 7 = .ok (.iload_n 3, 1) := by decide +kernel
theorem dX11_isNull_8 : decode cX11_isNull 8 = .ok (.ifCond .lt 18, 3) := by decide +kernel
theorem dX11_isNull_11 : decode cX11_isNull 11 = .ok (.aload_n 0, 1) := by decide +kernel
theorem dX11_isNull_12 : decode cX11_isNull 12 = .ok (.invokevirtual 168, 3) := by decide +kernel
theorem dX11_isNull_15 : decode cX11_isNull 15 = .ok (.iload_n 3, 1) := by decide +kernel
theorem dX11_isNull_16 : decode cX11_isNull 16 = .ok (.invokevirtual 158, 3) := by decide +kernel
theorem dX11_isNull_19 : decode cX11_isNull 19 = .ok (.ifCond .eq 7, 3) := by decide +kernel
theorem dX11_isNull_22 : decode cX11_isNull 22 = .ok (.iconst 1, 1) := by decide +kernel
theorem dX11_isNull_23 : decode cX11_isNull 23 = .ok (.goto 4, 3) := by decide +kernel
theorem dX11_isNull_26 : decode cX11_isNull 26 = .ok (.iconst 0, 1) := by decide +kernel
theorem dX11_isNull_27 : decode cX11_isNull 27 = .ok (.ireturn, 1) := by decide +kernel
def c_X11_isNull_b27 (F : Nat) (cs : CS) (y0 : Int32) : Option Int32 := Option.bind (ckZ y0) fun _ => some y0
def c_X11_isNull_b26 (F : Nat) (cs : CS) : Option Int32 := c_X11_isNull_b27 F cs 0
def c_X11_isNull (F : Nat) (cs : CS) (x0 : Nat) (x1 : Int32) (x2 : Int32) : Option Int32 := Option.bind (ckE cs 12 x0) fun _ => Option.bind (c_X11_answerCell F cs x0 x1 x2) fun v_2 => if v_2 < 0 then (c_X11_isNull_b26 F cs ) else (Option.bind (ckE cs 12 x0) fun _ => Option.bind (c_X11_answerStrip F cs x0) fun v_5 => Option.bind (ckE cs 9 v_5) fun _ => Option.bind (c_X8_isBlank F cs v_5 v_2) fun v_7 => if v_7 = 0 then (c_X11_isNull_b26 F cs ) else (c_X11_isNull_b27 F cs 1))
set_option maxHeartbeats 4000000 in
set_option maxRecDepth 100000 in
theorem sc_X11_isNull (l : Launch) (dC : Nat → ClassId) (dI : Nat → Nat → Nat) (cB cI cJ cZ cS cO : ClassId) (b : Nat) (K V : Nat → Nat) (fz : Value) (F : Nat) (cs : CS) (x0 : Nat) (x1 : Int32) (x2 : Int32) (r9 : Int32) (hf : c_X11_isNull F cs x0 x1 x2 = some r9) : ocI l dC dI cB cI cJ cZ cS cO b K V fz yX11_isNull (wsOf yX11_isNull cX11_isNull 4 (some .boolean)) (2) [.ref (b + x0), .int x1, .int x2] cs cs r9 := by
  intro sz
  refine Met.ofW (cc := cX11_isNull) (maxL := 4) (ret := (some .boolean)) (by decide) rfl ?_
  intro p e s m args below meth c s₁ B hml hv
  obtain ⟨rfl, hsz, hP, hK, hD0, hZ⟩ := hv
  have hx := B.exec
  have hb := B.bytes
  have hr := B.returns
  have hts := atoms_spec (ws := (wsOf yX11_isNull cX11_isNull 4 (some .boolean))) B.pre
  have hown : s.vm.findClass RX11 = some m.cls := findClass_of_methodNamed B.named
  have hlocks := B.notSynchronized
  subst hsz
  have hD := hD0.self (sz := s.heap.size)
  generalize hAe : va_A (cW cB cI cJ cZ cS cO b cs) s.heap.size = A at hD hZ ⊢
  have hA : ∀ q : Nat, s.heap.size ≤ q → A q := fun q h => by rw [← hAe]; exact Or.inr h
  have hS : va_S A s.heap s.heap [] := va_S.rf
  have hl := lv_entry ([.ref (b + x0), .int x1, .int x2]) (n := 4) (Nat.le_of_ble_eq_true rfl)
  rw [lg_entry_eq]
  generalize (lg_sl ([.ref (b + x0), .int x1, .int x2]) ++ List.replicate (4 - (lg_sl ([.ref (b + x0), .int x1, .int x2])).length) Slot.unset).toArray = ls at hl ⊢
  have hl : lv_has ls 4 [(0, .ref (b + x0)), (1, .int x1), (2, .int x2)] := hl
  have B_27 : ∀ (y0 : Int32), c_X11_isNull_b27 F cs y0 = some r9 → ∀ (H : Heap) (locs : List Loc) (ls : Array Slot), va_P (dC, dI) vwCl (cW cB cI cJ cZ cS cO b cs) H → va_D A (cW cB cI cJ cZ cS cO b cs) → va_S A s.heap H locs → lv_has ls 4 [] → W p l e (headSpec (wsOf yX11_isNull cX11_isNull 4 (some .boolean)) ({ frames := 2, cells := 0, slots := 0, locals := 60 * (2) } : Room)).room s m ([.ref (b + x0), .int x1, .int x2] : List Value).toArray below meth c H locs 0 0 (MQ below (va_Qi (fun (x : Int32) (_ : Unit) => x = r9) (fun _ t_ => va_P (dC, dI) vwCl (cW cB cI cJ cZ cS cO b cs) t_.heap ∧ va_D A (cW cB cI cJ cZ cS cO b cs)) A) ([.ref (b + x0), .int x1, .int x2] : List Value).toArray s 0 0 A) (F0 m 27 ls [.int y0]) := by
    intro y0 h H locs ls hP hD hS hl
    unfold c_X11_isNull_b27 at h
    replace h := ob h; obtain ⟨w_1, hw_1, h⟩ := h
    have e2 := Option.some.inj h
    exact W.zret (v := y0) hx hb hr (nzN (ckZ_some hw_1)) (fun t_ ht hW => ⟨⟨y0, (), rfl, e2, by rw [ht]; exact hP, hD⟩, hS.F ht⟩) hS.2.2 dX11_isNull_27
  have B_26 : c_X11_isNull_b26 F cs = some r9 → ∀ (H : Heap) (locs : List Loc) (ls : Array Slot), va_P (dC, dI) vwCl (cW cB cI cJ cZ cS cO b cs) H → va_D A (cW cB cI cJ cZ cS cO b cs) → va_S A s.heap H locs → lv_has ls 4 [] → W p l e (headSpec (wsOf yX11_isNull cX11_isNull 4 (some .boolean)) ({ frames := 2, cells := 0, slots := 0, locals := 60 * (2) } : Room)).room s m ([.ref (b + x0), .int x1, .int x2] : List Value).toArray below meth c H locs 0 0 (MQ below (va_Qi (fun (x : Int32) (_ : Unit) => x = r9) (fun _ t_ => va_P (dC, dI) vwCl (cW cB cI cJ cZ cS cO b cs) t_.heap ∧ va_D A (cW cB cI cJ cZ cS cO b cs)) A) ([.ref (b + x0), .int x1, .int x2] : List Value).toArray s 0 0 A) (F0 m 26 ls []) := by
    intro  h H locs ls hP hD hS hl
    unfold c_X11_isNull_b26 at h
    refine lv_iconst (v := 0) hx hb dX11_isNull_26 (by decide) ?_
    exact B_27 0 h _ _ _ hP hD hS (lv_sub hl [] rfl)
  have h := hf
  unfold c_X11_isNull at h
  refine lv_aload_n hx hb dX11_isNull_0 rfl (lv_at hl 0 rfl) ?_
  refine lv_iload_n hx hb dX11_isNull_1 rfl (lv_at hl 1 rfl) ?_
  refine lv_iload_n hx hb dX11_isNull_2 rfl (lv_at hl 2 rfl) ?_
  replace h := ob h; obtain ⟨w_3, hw_3, h⟩ := h
  replace h := ob h; obtain ⟨v_2, hv_2, h⟩ := h
  refine ccI (As := [.int x1, .int x2]) hx hb hml hts hown hK hP hD hS hA hZ (X := 12) (by decide) rfl (ckE_some hw_3) (sc_X11_answerCell l dC dI cB cI cJ cZ cS cO b K V fz F cs x0 x1 x2 v_2 hv_2) (cw_X11_X11_answerCell hts (fr := 1) (Nat.le_of_ble_eq_true rfl) (Nat.le_of_ble_eq_true rfl)) rfl hl.1 (Nat.le_of_ble_eq_true rfl) ⟨Nat.zero_le _, Nat.zero_le _⟩ dX11_isNull_3 (fun H locs hP hD hS => ?_)
  refine lv_istore_n (lv' := [(3, .int v_2), (0, .ref (b + x0)), (1, .int x1), (2, .int x2)]) hx hb dX11_isNull_6 rfl hl (by decide) rfl (fun ls hl => ?_)
  refine lv_iload_n hx hb dX11_isNull_7 rfl (lv_at hl 0 rfl) ?_
  refine lv_if_lt (tgt := 26) hx hb dX11_isNull_8 (by decide) (fun c_4 => ?_) (fun c_4 => ?_)
  · skip
    replace h := (if_pos c_4).symm.trans h
    exact B_26  h _ _ _ hP hD hS (lv_sub hl [] rfl)
  · skip
    replace h := (if_neg c_4).symm.trans h
    refine lv_aload_n hx hb dX11_isNull_11 rfl (lv_at hl 1 rfl) ?_
    replace h := ob h; obtain ⟨w_6, hw_6, h⟩ := h
    replace h := ob h; obtain ⟨v_5, hv_5, h⟩ := h
    refine ccR (As := []) hx hb hml hts hown hK hP hD hS hA hZ (X := 12) (by decide) rfl (ckE_some hw_6) (sc_X11_answerStrip l dC dI cB cI cJ cZ cS cO b K V fz F cs x0 v_5 hv_5) (cw_X11_X11_answerStrip hts (fr := 0) (Nat.le_of_ble_eq_true rfl) (Nat.le_of_ble_eq_true rfl)) rfl hl.1 (Nat.le_of_ble_eq_true rfl) ⟨Nat.zero_le _, Nat.zero_le _⟩ dX11_isNull_12 (fun H locs hP hD hS => ?_)
    refine lv_iload_n hx hb dX11_isNull_15 rfl (lv_at hl 0 rfl) ?_
    replace h := ob h; obtain ⟨w_8, hw_8, h⟩ := h
    replace h := ob h; obtain ⟨v_7, hv_7, h⟩ := h
    refine ccI (As := [.int v_2]) hx hb hml hts hown hK hP hD hS hA hZ (X := 9) (by decide) rfl (ckE_some hw_8) (sc_X8_isBlank l dC dI cB cI cJ cZ cS cO b K V fz F cs v_5 v_2 v_7 hv_7) (cw_X11_X8_isBlank hts (fr := 1) (Nat.le_of_ble_eq_true rfl) (Nat.le_of_ble_eq_true rfl)) rfl hl.1 (Nat.le_of_ble_eq_true rfl) ⟨Nat.zero_le _, Nat.zero_le _⟩ dX11_isNull_16 (fun H locs hP hD hS => ?_)
    refine lv_if_eq (tgt := 26) hx hb dX11_isNull_19 (by decide) (fun c_9 => ?_) (fun c_9 => ?_)
    · skip
      replace h := (if_pos c_9).symm.trans h
      exact B_26  h _ _ _ hP hD hS (lv_sub hl [] rfl)
    · skip
      replace h := (if_neg c_9).symm.trans h
      refine lv_iconst (v := 1) hx hb dX11_isNull_22 (by decide) ?_
      refine lv_goto (tgt := 27) hx hb dX11_isNull_23 (by decide) ?_
      exact B_27 1 h _ _ _ hP hD hS (lv_sub hl [] rfl)
theorem dX11_type_0 : decode cX11_type 0 = .ok (.aload_n 0, 1) := by decide +kernel
theorem dX11_type_1 : decode cX11_type 1 = .ok (.getfield 107, 3) := by decide +kernel
theorem dX11_type_4 : decode cX11_type 4 = .ok (.ifnonnull 7, 3) := by decide +kernel
theorem dX11_type_7 : decode cX11_type 7 = .ok (.iconst 0, 1) := by decide +kernel
theorem dX11_type_8 : decode cX11_type 8 = .ok (.goto 11, 3) := by decide +kernel
theorem dX11_type_11 : decode cX11_type 11 = .ok (.aload_n 0, 1) := by decide +kernel
theorem dX11_type_12 : decode cX11_type 12 = .ok (.getfield 107, 3) := by decide +kernel
theorem dX11_type_15 : decode cX11_type 15 = .ok (.iload_n 1, 1) := by decide +kernel
theorem dX11_type_16 : decode cX11_type 16 = .ok (.invokevirtual 172, 3) := by decide +kernel
theorem dX11_type_19 : decode cX11_type 19 = .ok (.ireturn, 1) := by decide +kernel
def c_X11_type_b19 (F : Nat) (cs : CS) (y0 : Int32) : Option Int32 := some y0
def c_X11_type (F : Nat) (cs : CS) (x0 : Nat) (x1 : Int32) : Option Int32 := Option.bind (gR cs 12 389 x0) fun v_1 => oc v_1 (c_X11_type_b19 F cs 0) (fun i_2 => Option.bind (gR cs 12 389 x0) fun v_3 => Option.bind (v_3) fun i_5 => Option.bind (ckE cs 10 i_5) fun _ => Option.bind (c_X9_columnType F cs i_5 x1) fun v_4 => c_X11_type_b19 F cs v_4)
set_option maxHeartbeats 4000000 in
set_option maxRecDepth 100000 in
theorem sc_X11_type (l : Launch) (dC : Nat → ClassId) (dI : Nat → Nat → Nat) (cB cI cJ cZ cS cO : ClassId) (b : Nat) (K V : Nat → Nat) (fz : Value) (F : Nat) (cs : CS) (x0 : Nat) (x1 : Int32) (r9 : Int32) (hf : c_X11_type F cs x0 x1 = some r9) : ocI l dC dI cB cI cJ cZ cS cO b K V fz yX11_type (wsOf yX11_type cX11_type 2 (some .int)) (2) [.ref (b + x0), .int x1] cs cs r9 := by
  intro sz
  refine Met.ofW (cc := cX11_type) (maxL := 2) (ret := (some .int)) (by decide) rfl ?_
  intro p e s m args below meth c s₁ B hml hv
  obtain ⟨rfl, hsz, hP, hK, hD0, hZ⟩ := hv
  have hx := B.exec
  have hb := B.bytes
  have hr := B.returns
  have hts := atoms_spec (ws := (wsOf yX11_type cX11_type 2 (some .int))) B.pre
  have hown : s.vm.findClass RX11 = some m.cls := findClass_of_methodNamed B.named
  have hlocks := B.notSynchronized
  subst hsz
  have hD := hD0.self (sz := s.heap.size)
  generalize hAe : va_A (cW cB cI cJ cZ cS cO b cs) s.heap.size = A at hD hZ ⊢
  have hA : ∀ q : Nat, s.heap.size ≤ q → A q := fun q h => by rw [← hAe]; exact Or.inr h
  have hS : va_S A s.heap s.heap [] := va_S.rf
  have hl := lv_entry ([.ref (b + x0), .int x1]) (n := 2) (Nat.le_of_ble_eq_true rfl)
  rw [lg_entry_eq]
  generalize (lg_sl ([.ref (b + x0), .int x1]) ++ List.replicate (2 - (lg_sl ([.ref (b + x0), .int x1])).length) Slot.unset).toArray = ls at hl ⊢
  have hl : lv_has ls 2 [(0, .ref (b + x0)), (1, .int x1)] := hl
  have B_19 : ∀ (y0 : Int32), c_X11_type_b19 F cs y0 = some r9 → ∀ (H : Heap) (locs : List Loc) (ls : Array Slot), va_P (dC, dI) vwCl (cW cB cI cJ cZ cS cO b cs) H → va_D A (cW cB cI cJ cZ cS cO b cs) → va_S A s.heap H locs → lv_has ls 2 [] → W p l e (headSpec (wsOf yX11_type cX11_type 2 (some .int)) ({ frames := 2, cells := 0, slots := 0, locals := 60 * (2) } : Room)).room s m ([.ref (b + x0), .int x1] : List Value).toArray below meth c H locs 0 0 (MQ below (va_Qi (fun (x : Int32) (_ : Unit) => x = r9) (fun _ t_ => va_P (dC, dI) vwCl (cW cB cI cJ cZ cS cO b cs) t_.heap ∧ va_D A (cW cB cI cJ cZ cS cO b cs)) A) ([.ref (b + x0), .int x1] : List Value).toArray s 0 0 A) (F0 m 19 ls [.int y0]) := by
    intro y0 h H locs ls hP hD hS hl
    unfold c_X11_type_b19 at h
    have e2 := Option.some.inj h
    exact W.iret (v := y0) hx hb hr (fun t_ ht hW => ⟨⟨y0, (), rfl, e2, by rw [ht]; exact hP, hD⟩, hS.F ht⟩) hS.2.2 dX11_type_19
  have h := hf
  unfold c_X11_type at h
  refine lv_aload_n hx hb dX11_type_0 rfl (lv_at hl 0 rfl) ?_
  replace h := ob h; obtain ⟨v_1, hv_1, h⟩ := h
  refine fg_X11_107 hx hb hts hown hK hP hv_1 dX11_type_1 ?_
  cases v_1 with
  | none =>
    replace h := oc_n.symm.trans h
    refine lv_ifnonnullN hx hb dX11_type_4 ?_
    refine lv_iconst (v := 0) hx hb dX11_type_7 (by decide) ?_
    refine lv_goto (tgt := 19) hx hb dX11_type_8 (by decide) ?_
    exact B_19 0 h _ _ _ hP hD hS (lv_sub hl [] rfl)
  | some i_2 =>
    replace h := oc_s.symm.trans h
    refine lv_ifnonnull (tgt := 11) hx hb dX11_type_4 (by decide) ?_
    refine lv_aload_n hx hb dX11_type_11 rfl (lv_at hl 0 rfl) ?_
    replace h := ob h; obtain ⟨v_3, hv_3, h⟩ := h
    refine fg_X11_107 hx hb hts hown hK hP hv_3 dX11_type_12 ?_
    refine lv_iload_n hx hb dX11_type_15 rfl (lv_at hl 1 rfl) ?_
    replace h := ob h; obtain ⟨i_5, hi_5, h⟩ := h
    subst hi_5
    replace h := ob h; obtain ⟨w_6, hw_6, h⟩ := h
    replace h := ob h; obtain ⟨v_4, hv_4, h⟩ := h
    refine ccI (As := [.int x1]) hx hb hml hts hown hK hP hD hS hA hZ (X := 10) (by decide) rfl (ckE_some hw_6) (sc_X9_columnType l dC dI cB cI cJ cZ cS cO b K V fz F cs i_5 x1 v_4 hv_4) (cw_X11_X9_columnType hts (fr := 1) (Nat.le_of_ble_eq_true rfl) (Nat.le_of_ble_eq_true rfl)) rfl hl.1 (Nat.le_of_ble_eq_true rfl) ⟨Nat.zero_le _, Nat.zero_le _⟩ dX11_type_16 (fun H locs hP hD hS => ?_)
    exact B_19 v_4 h _ _ _ hP hD hS (lv_sub hl [] rfl)
theorem dX11_three_0 : decode cX11_three 0 = .ok (.iload_n 1, 1) := by decide +kernel
theorem dX11_three_1 : decode cX11_three 1 = .ok (.tableswitch 111 0 5 #[39, 51, 63, 75, 87, 99], 39) := by decide +kernel
theorem dX11_three_40 : decode cX11_three 40 = .ok (.aload_n 0, 1) := by decide +kernel
theorem dX11_three_41 : decode cX11_three 41 = .ok (.getfield 55, 3) := by decide +kernel
theorem dX11_three_44 : decode cX11_three 44 = .ok (.bipush 28, 2) := by decide +kernel
theorem dX11_three_46 : decode cX11_three 46 = .ok (.iload_n 2, 1) := by decide +kernel
theorem dX11_three_47 : decode cX11_three 47 = .ok (.iload_n 3, 1) := by decide +kernel
theorem dX11_three_48 : decode cX11_three 48 = .ok (.invokevirtual 175, 3) := by decide +kernel
theorem dX11_three_51 : decode cX11_three 51 = .ok (.ireturn, 1) := by decide +kernel
theorem dX11_three_52 : decode cX11_three 52 = .ok (.aload_n 0, 1) := by decide +kernel
theorem dX11_three_53 : decode cX11_three 53 = .ok (.getfield 55, 3) := by decide +kernel
theorem dX11_three_56 : decode cX11_three 56 = .ok (.bipush 29, 2) := by decide +kernel
theorem dX11_three_58 : decode cX11_three 58 = .ok (.iload_n 2, 1) := by decide +kernel
theorem dX11_three_59 : decode cX11_three 59 = .ok (.iload_n 3, 1) := by decide +kernel
theorem dX11_three_60 : decode cX11_three 60 = .ok (.invokevirtual 175, 3) := by decide +kernel
theorem dX11_three_63 : decode cX11_three 63 = .ok (.ireturn, 1) := by decide +kernel
theorem dX11_three_64 : decode cX11_three 64 = .ok (.aload_n 0, 1) := by decide +kernel
theorem dX11_three_65 : decode cX11_three 65 = .ok (.getfield 55, 3) := by decide +kernel
theorem dX11_three_68 : decode cX11_three 68 = .ok (.bipush 25, 2) := by decide +kernel
theorem dX11_three_70 : decode cX11_three 70 = .ok (.iload_n 2, 1) := by decide +kernel
theorem dX11_three_71 : decode cX11_three 71 = .ok (.iload_n 3, 1) := by decide +kernel
theorem dX11_three_72 : decode cX11_three 72 = .ok (.invokevirtual 175, 3) := by decide +kernel
theorem dX11_three_75 : decode cX11_three 75 = .ok (.ireturn, 1) := by decide +kernel
theorem dX11_three_76 : decode cX11_three 76 = .ok (.aload_n 0, 1) := by decide +kernel
theorem dX11_three_77 : decode cX11_three 77 = .ok (.getfield 55, 3) := by decide +kernel
theorem dX11_three_80 : decode cX11_three 80 = .ok (.bipush 50, 2) := by decide +kernel
theorem dX11_three_82 : decode cX11_three 82 = .ok (.iload_n 2, 1) := by decide +kernel
theorem dX11_three_83 : decode cX11_three 83 = .ok (.iload_n 3, 1) := by decide +kernel
theorem dX11_three_84 : decode cX11_three 84 = .ok (.invokevirtual 175, 3) := by decide +kernel
theorem dX11_three_87 : decode cX11_three 87 = .ok (.ireturn, 1) := by decide +kernel
theorem dX11_three_88 : decode cX11_three 88 = .ok (.aload_n 0, 1) := by decide +kernel
theorem dX11_three_89 : decode cX11_three 89 = .ok (.getfield 55, 3) := by decide +kernel
theorem dX11_three_92 : decode cX11_three 92 = .ok (.bipush 51, 2) := by decide +kernel
theorem dX11_three_94 : decode cX11_three 94 = .ok (.iload_n 2, 1) := by decide +kernel
theorem dX11_three_95 : decode cX11_three 95 = .ok (.iload_n 3, 1) := by decide +kernel
theorem dX11_three_96 : decode cX11_three 96 = .ok (.invokevirtual 175, 3) := by decide +kernel
theorem dX11_three_99 : decode cX11_three 99 = .ok (.ireturn, 1) := by decide +kernel
theorem dX11_three_100 : decode cX11_three 100 = .ok (.aload_n 0, 1) := by decide +kernel
theorem dX11_three_101 : decode cX11_three 101 = .ok (.getfield 55, 3) := by decide +kernel
theorem dX11_three_104 : decode cX11_three 104 = .ok (.bipush 45, 2) := by decide +kernel
theorem dX11_three_106 : decode cX11_three 106 = .ok (.iload_n 2, 1) := by decide +kernel
theorem dX11_three_107 : decode cX11_three 107 = .ok (.iload_n 3, 1) := by decide +kernel
theorem dX11_three_108 : decode cX11_three 108 = .ok (.invokevirtual 175, 3) := by decide +kernel
theorem dX11_three_111 : decode cX11_three 111 = .ok (.ireturn, 1) := by decide +kernel
theorem dX11_three_112 : decode cX11_three 112 = .ok (.bipush (-2), 2) := by decide +kernel
theorem dX11_three_114 : decode cX11_three 114 = .ok (.ireturn, 1) := by decide +kernel
def c_X11_three (F : Nat) (cs : CS) (x0 : Nat) (x1 : Int32) (x2 : Int32) (x3 : Int32) : Option (CS × Int32) := if x1 = 0 then (Option.bind (gR cs 12 399 x0) fun v_2 => Option.bind (v_2) fun i_4 => Option.bind (ckE cs 2 i_4) fun _ => Option.bind (c_X1_weigh F cs i_4 28 x2 x3) fun z_3 => some (z_3.1, z_3.2)) else (if x1 = 1 then (Option.bind (gR cs 12 399 x0) fun v_7 => Option.bind (v_7) fun i_9 => Option.bind (ckE cs 2 i_9) fun _ => Option.bind (c_X1_weigh F cs i_9 29 x2 x3) fun z_8 => some (z_8.1, z_8.2)) else (if x1 = 2 then (Option.bind (gR cs 12 399 x0) fun v_12 => Option.bind (v_12) fun i_14 => Option.bind (ckE cs 2 i_14) fun _ => Option.bind (c_X1_weigh F cs i_14 25 x2 x3) fun z_13 => some (z_13.1, z_13.2)) else (if x1 = 3 then (Option.bind (gR cs 12 399 x0) fun v_17 => Option.bind (v_17) fun i_19 => Option.bind (ckE cs 2 i_19) fun _ => Option.bind (c_X1_weigh F cs i_19 50 x2 x3) fun z_18 => some (z_18.1, z_18.2)) else (if x1 = 4 then (Option.bind (gR cs 12 399 x0) fun v_22 => Option.bind (v_22) fun i_24 => Option.bind (ckE cs 2 i_24) fun _ => Option.bind (c_X1_weigh F cs i_24 51 x2 x3) fun z_23 => some (z_23.1, z_23.2)) else (if x1 = 5 then (Option.bind (gR cs 12 399 x0) fun v_27 => Option.bind (v_27) fun i_29 => Option.bind (ckE cs 2 i_29) fun _ => Option.bind (c_X1_weigh F cs i_29 45 x2 x3) fun z_28 => some (z_28.1, z_28.2)) else (some (cs, (-2))))))))
set_option maxHeartbeats 4000000 in
set_option maxRecDepth 100000 in
theorem sc_X11_three (l : Launch) (dC : Nat → ClassId) (dI : Nat → Nat → Nat) (cB cI cJ cZ cS cO : ClassId) (b : Nat) (K V : Nat → Nat) (fz : Value) (F : Nat) (cs : CS) (x0 : Nat) (x1 : Int32) (x2 : Int32) (x3 : Int32) (cs9 : CS) (r9 : Int32) (hf : c_X11_three F cs x0 x1 x2 x3 = some (cs9, r9)) : ocI l dC dI cB cI cJ cZ cS cO b K V fz yX11_three (wsOf yX11_three cX11_three 4 (some .int)) (3) [.ref (b + x0), .int x1, .int x2, .int x3] cs cs9 r9 := by
  intro sz
  refine Met.ofW (cc := cX11_three) (maxL := 4) (ret := (some .int)) (by decide) rfl ?_
  intro p e s m args below meth c s₁ B hml hv
  obtain ⟨rfl, hsz, hP, hK, hD0, hZ⟩ := hv
  have hx := B.exec
  have hb := B.bytes
  have hr := B.returns
  have hts := atoms_spec (ws := (wsOf yX11_three cX11_three 4 (some .int))) B.pre
  have hown : s.vm.findClass RX11 = some m.cls := findClass_of_methodNamed B.named
  have hlocks := B.notSynchronized
  subst hsz
  have hD := hD0.self (sz := s.heap.size)
  generalize hAe : va_A (cW cB cI cJ cZ cS cO b cs) s.heap.size = A at hD hZ ⊢
  have hA : ∀ q : Nat, s.heap.size ≤ q → A q := fun q h => by rw [← hAe]; exact Or.inr h
  have hS : va_S A s.heap s.heap [] := va_S.rf
  have hl := lv_entry ([.ref (b + x0), .int x1, .int x2, .int x3]) (n := 4) (Nat.le_of_ble_eq_true rfl)
  rw [lg_entry_eq]
  generalize (lg_sl ([.ref (b + x0), .int x1, .int x2, .int x3]) ++ List.replicate (4 - (lg_sl ([.ref (b + x0), .int x1, .int x2, .int x3])).length) Slot.unset).toArray = ls at hl ⊢
  have hl : lv_has ls 4 [(0, .ref (b + x0)), (1, .int x1), (2, .int x2), (3, .int x3)] := hl
  have h := hf
  unfold c_X11_three at h
  refine lv_iload_n hx hb dX11_three_0 rfl (lv_at hl 1 rfl) ?_
  by_cases c_1 : x1 = 0
  · skip
    replace h := (if_pos c_1).symm.trans h
    refine lv_tableIn (tgt := 40) (off := 39) hx hb dX11_three_1 (by rw [c_1]; decide) (by rw [c_1]; decide) (by rw [c_1]; decide) (by decide) ?_
    refine lv_aload_n hx hb dX11_three_40 rfl (lv_at hl 0 rfl) ?_
    replace h := ob h; obtain ⟨v_2, hv_2, h⟩ := h
    refine fg_X11_55 hx hb hts hown hK hP hv_2 dX11_three_41 ?_
    refine lv_bipush (v := 28) hx hb dX11_three_44 (by decide) ?_
    refine lv_iload_n hx hb dX11_three_46 rfl (lv_at hl 2 rfl) ?_
    refine lv_iload_n hx hb dX11_three_47 rfl (lv_at hl 3 rfl) ?_
    replace h := ob h; obtain ⟨i_4, hi_4, h⟩ := h
    subst hi_4
    replace h := ob h; obtain ⟨w_5, hw_5, h⟩ := h
    replace h := ob h; obtain ⟨z_3, hv_3, h⟩ := h
    refine ccI (As := [.int 28, .int x2, .int x3]) hx hb hml hts hown hK hP hD hS hA hZ (X := 2) (by decide) rfl (ckE_some hw_5) (sc_X1_weigh l dC dI cB cI cJ cZ cS cO b K V fz F cs i_4 28 x2 x3 z_3.1 z_3.2 hv_3) (cw_X11_X1_weigh hts (fr := 2) (Nat.le_of_ble_eq_true rfl) (Nat.le_of_ble_eq_true rfl)) rfl hl.1 (Nat.le_of_ble_eq_true rfl) ⟨Nat.zero_le _, Nat.zero_le _⟩ dX11_three_48 (fun H locs hP hD hS => ?_)
    obtain ⟨e1, e2⟩ := Prod.mk.inj (Option.some.inj h)
    rw [e1] at hP hD
    exact W.iret (v := z_3.2) hx hb hr (fun t_ ht hW => ⟨⟨z_3.2, (), rfl, e2, by rw [ht]; exact hP, hD⟩, hS.F ht⟩) hS.2.2 dX11_three_51
  replace h := (if_neg c_1).symm.trans h
  by_cases c_6 : x1 = 1
  · skip
    replace h := (if_pos c_6).symm.trans h
    refine lv_tableIn (tgt := 52) (off := 51) hx hb dX11_three_1 (by rw [c_6]; decide) (by rw [c_6]; decide) (by rw [c_6]; decide) (by decide) ?_
    refine lv_aload_n hx hb dX11_three_52 rfl (lv_at hl 0 rfl) ?_
    replace h := ob h; obtain ⟨v_7, hv_7, h⟩ := h
    refine fg_X11_55 hx hb hts hown hK hP hv_7 dX11_three_53 ?_
    refine lv_bipush (v := 29) hx hb dX11_three_56 (by decide) ?_
    refine lv_iload_n hx hb dX11_three_58 rfl (lv_at hl 2 rfl) ?_
    refine lv_iload_n hx hb dX11_three_59 rfl (lv_at hl 3 rfl) ?_
    replace h := ob h; obtain ⟨i_9, hi_9, h⟩ := h
    subst hi_9
    replace h := ob h; obtain ⟨w_10, hw_10, h⟩ := h
    replace h := ob h; obtain ⟨z_8, hv_8, h⟩ := h
    refine ccI (As := [.int 29, .int x2, .int x3]) hx hb hml hts hown hK hP hD hS hA hZ (X := 2) (by decide) rfl (ckE_some hw_10) (sc_X1_weigh l dC dI cB cI cJ cZ cS cO b K V fz F cs i_9 29 x2 x3 z_8.1 z_8.2 hv_8) (cw_X11_X1_weigh hts (fr := 2) (Nat.le_of_ble_eq_true rfl) (Nat.le_of_ble_eq_true rfl)) rfl hl.1 (Nat.le_of_ble_eq_true rfl) ⟨Nat.zero_le _, Nat.zero_le _⟩ dX11_three_60 (fun H locs hP hD hS => ?_)
    obtain ⟨e1, e2⟩ := Prod.mk.inj (Option.some.inj h)
    rw [e1] at hP hD
    exact W.iret (v := z_8.2) hx hb hr (fun t_ ht hW => ⟨⟨z_8.2, (), rfl, e2, by rw [ht]; exact hP, hD⟩, hS.F ht⟩) hS.2.2 dX11_three_63
  replace h := (if_neg c_6).symm.trans h
  by_cases c_11 : x1 = 2
  · skip
    replace h := (if_pos c_11).symm.trans h
    refine lv_tableIn (tgt := 64) (off := 63) hx hb dX11_three_1 (by rw [c_11]; decide) (by rw [c_11]; decide) (by rw [c_11]; decide) (by decide) ?_
    refine lv_aload_n hx hb dX11_three_64 rfl (lv_at hl 0 rfl) ?_
    replace h := ob h; obtain ⟨v_12, hv_12, h⟩ := h
    refine fg_X11_55 hx hb hts hown hK hP hv_12 dX11_three_65 ?_
    refine lv_bipush (v := 25) hx hb dX11_three_68 (by decide) ?_
    refine lv_iload_n hx hb dX11_three_70 rfl (lv_at hl 2 rfl) ?_
    refine lv_iload_n hx hb dX11_three_71 rfl (lv_at hl 3 rfl) ?_
    replace h := ob h; obtain ⟨i_14, hi_14, h⟩ := h
    subst hi_14
    replace h := ob h; obtain ⟨w_15, hw_15, h⟩ := h
    replace h := ob h; obtain ⟨z_13, hv_13, h⟩ := h
    refine ccI (As := [.int 25, .int x2, .int x3]) hx hb hml hts hown hK hP hD hS hA hZ (X := 2) (by decide) rfl (ckE_some hw_15) (sc_X1_weigh l dC dI cB cI cJ cZ cS cO b K V fz F cs i_14 25 x2 x3 z_13.1 z_13.2 hv_13) (cw_X11_X1_weigh hts (fr := 2) (Nat.le_of_ble_eq_true rfl) (Nat.le_of_ble_eq_true rfl)) rfl hl.1 (Nat.le_of_ble_eq_true rfl) ⟨Nat.zero_le _, Nat.zero_le _⟩ dX11_three_72 (fun H locs hP hD hS => ?_)
    obtain ⟨e1, e2⟩ := Prod.mk.inj (Option.some.inj h)
    rw [e1] at hP hD
    exact W.iret (v := z_13.2) hx hb hr (fun t_ ht hW => ⟨⟨z_13.2, (), rfl, e2, by rw [ht]; exact hP, hD⟩, hS.F ht⟩) hS.2.2 dX11_three_75
  replace h := (if_neg c_11).symm.trans h
  by_cases c_16 : x1 = 3
  · skip
    replace h := (if_pos c_16).symm.trans h
    refine lv_tableIn (tgt := 76) (off := 75) hx hb dX11_three_1 (by rw [c_16]; decide) (by rw [c_16]; decide) (by rw [c_16]; decide) (by decide) ?_
    refine lv_aload_n hx hb dX11_three_76 rfl (lv_at hl 0 rfl) ?_
    replace h := ob h; obtain ⟨v_17, hv_17, h⟩ := h
    refine fg_X11_55 hx hb hts hown hK hP hv_17 dX11_three_77 ?_
    refine lv_bipush (v := 50) hx hb dX11_three_80 (by decide) ?_
    refine lv_iload_n hx hb dX11_three_82 rfl (lv_at hl 2 rfl) ?_
    refine lv_iload_n hx hb dX11_three_83 rfl (lv_at hl 3 rfl) ?_
    replace h := ob h; obtain ⟨i_19, hi_19, h⟩ := h
    subst hi_19
    replace h := ob h; obtain ⟨w_20, hw_20, h⟩ := h
    replace h := ob h; obtain ⟨z_18, hv_18, h⟩ := h
    refine ccI (As := [.int 50, .int x2, .int x3]) hx hb hml hts hown hK hP hD hS hA hZ (X := 2) (by decide) rfl (ckE_some hw_20) (sc_X1_weigh l dC dI cB cI cJ cZ cS cO b K V fz F cs i_19 50 x2 x3 z_18.1 z_18.2 hv_18) (cw_X11_X1_weigh hts (fr := 2) (Nat.le_of_ble_eq_true rfl) (Nat.le_of_ble_eq_true rfl)) rfl hl.1 (Nat.le_of_ble_eq_true rfl) ⟨Nat.zero_le _, Nat.zero_le _⟩ dX11_three_84 (fun H locs hP hD hS => ?_)
    obtain ⟨e1, e2⟩ := Prod.mk.inj (Option.some.inj h)
    rw [e1] at hP hD
    exact W.iret (v := z_18.2) hx hb hr (fun t_ ht hW => ⟨⟨z_18.2, (), rfl, e2, by rw [ht]; exact hP, hD⟩, hS.F ht⟩) hS.2.2 dX11_three_87
  replace h := (if_neg c_16).symm.trans h
  by_cases c_21 : x1 = 4
  · skip
    replace h := (if_pos c_21).symm.trans h
    refine lv_tableIn (tgt := 88) (off := 87) hx hb dX11_three_1 (by rw [c_21]; decide) (by rw [c_21]; decide) (by rw [c_21]; decide) (by decide) ?_
    refine lv_aload_n hx hb dX11_three_88 rfl (lv_at hl 0 rfl) ?_
    replace h := ob h; obtain ⟨v_22, hv_22, h⟩ := h
    refine fg_X11_55 hx hb hts hown hK hP hv_22 dX11_three_89 ?_
    refine lv_bipush (v := 51) hx hb dX11_three_92 (by decide) ?_
    refine lv_iload_n hx hb dX11_three_94 rfl (lv_at hl 2 rfl) ?_
    refine lv_iload_n hx hb dX11_three_95 rfl (lv_at hl 3 rfl) ?_
    replace h := ob h; obtain ⟨i_24, hi_24, h⟩ := h
    subst hi_24
    replace h := ob h; obtain ⟨w_25, hw_25, h⟩ := h
    replace h := ob h; obtain ⟨z_23, hv_23, h⟩ := h
    refine ccI (As := [.int 51, .int x2, .int x3]) hx hb hml hts hown hK hP hD hS hA hZ (X := 2) (by decide) rfl (ckE_some hw_25) (sc_X1_weigh l dC dI cB cI cJ cZ cS cO b K V fz F cs i_24 51 x2 x3 z_23.1 z_23.2 hv_23) (cw_X11_X1_weigh hts (fr := 2) (Nat.le_of_ble_eq_true rfl) (Nat.le_of_ble_eq_true rfl)) rfl hl.1 (Nat.le_of_ble_eq_true rfl) ⟨Nat.zero_le _, Nat.zero_le _⟩ dX11_three_96 (fun H locs hP hD hS => ?_)
    obtain ⟨e1, e2⟩ := Prod.mk.inj (Option.some.inj h)
    rw [e1] at hP hD
    exact W.iret (v := z_23.2) hx hb hr (fun t_ ht hW => ⟨⟨z_23.2, (), rfl, e2, by rw [ht]; exact hP, hD⟩, hS.F ht⟩) hS.2.2 dX11_three_99
  replace h := (if_neg c_21).symm.trans h
  by_cases c_26 : x1 = 5
  · skip
    replace h := (if_pos c_26).symm.trans h
    refine lv_tableIn (tgt := 100) (off := 99) hx hb dX11_three_1 (by rw [c_26]; decide) (by rw [c_26]; decide) (by rw [c_26]; decide) (by decide) ?_
    refine lv_aload_n hx hb dX11_three_100 rfl (lv_at hl 0 rfl) ?_
    replace h := ob h; obtain ⟨v_27, hv_27, h⟩ := h
    refine fg_X11_55 hx hb hts hown hK hP hv_27 dX11_three_101 ?_
    refine lv_bipush (v := 45) hx hb dX11_three_104 (by decide) ?_
    refine lv_iload_n hx hb dX11_three_106 rfl (lv_at hl 2 rfl) ?_
    refine lv_iload_n hx hb dX11_three_107 rfl (lv_at hl 3 rfl) ?_
    replace h := ob h; obtain ⟨i_29, hi_29, h⟩ := h
    subst hi_29
    replace h := ob h; obtain ⟨w_30, hw_30, h⟩ := h
    replace h := ob h; obtain ⟨z_28, hv_28, h⟩ := h
    refine ccI (As := [.int 45, .int x2, .int x3]) hx hb hml hts hown hK hP hD hS hA hZ (X := 2) (by decide) rfl (ckE_some hw_30) (sc_X1_weigh l dC dI cB cI cJ cZ cS cO b K V fz F cs i_29 45 x2 x3 z_28.1 z_28.2 hv_28) (cw_X11_X1_weigh hts (fr := 2) (Nat.le_of_ble_eq_true rfl) (Nat.le_of_ble_eq_true rfl)) rfl hl.1 (Nat.le_of_ble_eq_true rfl) ⟨Nat.zero_le _, Nat.zero_le _⟩ dX11_three_108 (fun H locs hP hD hS => ?_)
    obtain ⟨e1, e2⟩ := Prod.mk.inj (Option.some.inj h)
    rw [e1] at hP hD
    exact W.iret (v := z_28.2) hx hb hr (fun t_ ht hW => ⟨⟨z_28.2, (), rfl, e2, by rw [ht]; exact hP, hD⟩, hS.F ht⟩) hS.2.2 dX11_three_111
  replace h := (if_neg c_26).symm.trans h
  have n_1 : ¬ (x1 : Int32).toInt = 0 := lv_neT c_1 (by decide)
  have n_6 : ¬ (x1 : Int32).toInt = 1 := lv_neT c_6 (by decide)
  have n_11 : ¬ (x1 : Int32).toInt = 2 := lv_neT c_11 (by decide)
  have n_16 : ¬ (x1 : Int32).toInt = 3 := lv_neT c_16 (by decide)
  have n_21 : ¬ (x1 : Int32).toInt = 4 := lv_neT c_21 (by decide)
  have n_26 : ¬ (x1 : Int32).toInt = 5 := lv_neT c_26 (by decide)
  by_cases hq_1 : (x1 : Int32).toInt < 0 ∨ 5 < (x1 : Int32).toInt
  · skip
    refine lv_tableOut (tgt := 112) hx hb dX11_three_1 hq_1 (by decide) ?_
    refine lv_bipush (v := (-2)) hx hb dX11_three_112 (by decide) ?_
    obtain ⟨e1, e2⟩ := Prod.mk.inj (Option.some.inj h)
    rw [e1] at hP hD
    exact W.iret (v := (-2)) hx hb hr (fun t_ ht hW => ⟨⟨(-2), (), rfl, e2, by rw [ht]; exact hP, hD⟩, hS.F ht⟩) hS.2.2 dX11_three_114
  exfalso
  omega
theorem dX11_told_0 : decode cX11_told 0 = .ok (.iload_n 1, 1) := by decide +kernel
theorem dX11_told_1 : decode cX11_told 1 = .ok (.tableswitch 132 0 5 #[39, 47, 55, 78, 100, 119], 39) := by decide +kernel
theorem dX11_told_40 : decode cX11_told 40 = .ok (.aload_n 0, 1) := by decide +kernel
theorem dX11_told_41 : decode cX11_told 41 = .ok (.getfield 16, 3) := by decide +kernel
theorem dX11_told_44 : decode cX11_told 44 = .ok (.getfield 179, 3) := by decide +kernel
theorem dX11_told_47 : decode cX11_told 47 = .ok (.ireturn, 1) := by decide +kernel
theorem dX11_told_48 : decode cX11_told 48 = .ok (.aload_n 0, 1) := by decide +kernel
theorem dX11_told_49 : decode cX11_told 49 = .ok (.getfield 16, 3) := by decide +kernel
theorem dX11_told_52 : decode cX11_told 52 = .ok (.invokevirtual 182, 3) := by decide +kernel
theorem dX11_told_55 : decode cX11_told 55 = .ok (.ireturn, 1) := by decide +kernel
theorem dX11_told_56 : decode cX11_told 56 = .ok (.aload_n 0, 1) := by decide +kernel
theorem dX11_told_57 : decode cX11_told 57 = .ok (.getfield 107, 3) := by decide +kernel
theorem dX11_told_60 : decode cX11_told 60 = .ok (.ifnonnull 7, 3) := by decide +kernel
theorem dX11_told_63 : decode cX11_told 63 = .ok (.iconst 0, 1) := by decide +kernel
theorem dX11_told_64 : decode cX11_told 64 = .ok (.goto 14, 3) := by decide +kernel
theorem dX11_told_67 : decode cX11_told 67 = .ok (.aload_n 0, 1) := by decide +kernel
theorem dX11_told_68 : decode cX11_told 68 = .ok (.getfield 107, 3) := by decide +kernel
theorem dX11_told_71 : decode cX11_told 71 = .ok (.aload_n 0, 1) := by decide +kernel
theorem dX11_told_72 : decode cX11_told 72 = .ok (.getfield 16, 3) := by decide +kernel
theorem dX11_told_75 : decode cX11_told 75 = .ok (.invokevirtual 185, 3) := by decide +kernel
theorem dX11_told_78 : decode cX11_told 78 = .ok (.ireturn, 1) := by decide +kernel
theorem dX11_told_79 : decode cX11_told 79 = .ok (.aload_n 0, 1) := by decide +kernel
theorem dX11_told_80 : decode cX11_told 80 = .ok (.getfield 107, 3) := by decide +kernel
theorem dX11_told_83 : decode cX11_told 83 = .ok (.ifnonnull 7, 3) := by decide +kernel
theorem dX11_told_86 : decode cX11_told 86 = .ok (.iconst 0, 1) := by decide +kernel
theorem dX11_told_87 : decode cX11_told 87 = .ok (.goto 13, 3) := by decide +kernel
theorem dX11_told_90 : decode cX11_told 90 = .ok (.aload_n 0, 1) := by decide +kernel
theorem dX11_told_91 : decode cX11_told 91 = .ok (.getfield 107, 3) := by decide +kernel
theorem dX11_told_94 : decode cX11_told 94 = .ok (.getfield 113, 3) := by decide +kernel
theorem dX11_told_97 : decode cX11_told 97 = .ok (.getfield 189, 3) := by decide +kernel
theorem dX11_told_100 : decode cX11_told 100 = .ok (.ireturn, 1) := by decide +kernel
theorem dX11_told_101 : decode cX11_told 101 = .ok (.aload_n 0, 1) := by decide +kernel
theorem dX11_told_102 : decode cX11_told 102 = .ok (.getfield 107, 3) := by decide +kernel
theorem dX11_told_105 : decode cX11_told 105 = .ok (.ifnonnull 7, 3) := by decide +kernel
theorem dX11_told_108 : decode cX11_told 108 = .ok (.iconst 0, 1) := by decide +kernel
theorem dX11_told_109 : decode cX11_told 109 = .ok (.goto 10, 3) := by decide +kernel
theorem dX11_told_112 : decode cX11_told 112 = .ok (.aload_n 0, 1) := by decide +kernel
theorem dX11_told_113 : decode cX11_told 113 = .ok (.getfield 107, 3) := by decide +kernel
theorem dX11_told_116 : decode cX11_told 116 = .ok (.getfield 192, 3) := by decide +kernel
theorem dX11_told_119 : decode cX11_told 119 = .ok (.ireturn, 1) := by decide +kernel
theorem dX11_told_120 : decode cX11_told 120 = .ok (.aload_n 0, 1) := by decide +kernel
theorem dX11_told_121 : decode cX11_told 121 = .ok (.getfield 107, 3) := by decide +kernel
theorem dX11_told_124 : decode cX11_told 124 = .ok (.ifnonnull 7, 3) := by decide +kernel
theorem dX11_told_127 : decode cX11_told 127 = .ok (.iconst 0, 1) := by decide +kernel
theorem dX11_told_128 : decode cX11_told 128 = .ok (.goto 4, 3) := by decide +kernel
theorem dX11_told_131 : decode cX11_told 131 = .ok (.iconst 1, 1) := by decide +kernel
theorem dX11_told_132 : decode cX11_told 132 = .ok (.ireturn, 1) := by decide +kernel
theorem dX11_told_133 : decode cX11_told 133 = .ok (.iconst (-1), 1) := by decide +kernel
theorem dX11_told_134 : decode cX11_told 134 = .ok (.ireturn, 1) := by decide +kernel
def c_X11_told_b78 (F : Nat) (cs : CS) (y0 : Int32) : Option Int32 := some y0
def c_X11_told_b100 (F : Nat) (cs : CS) (y0 : Int32) : Option Int32 := some y0
def c_X11_told_b119 (F : Nat) (cs : CS) (y0 : Int32) : Option Int32 := some y0
def c_X11_told_b132 (F : Nat) (cs : CS) (y0 : Int32) : Option Int32 := some y0
def c_X11_told (F : Nat) (cs : CS) (x0 : Nat) (x1 : Int32) : Option Int32 := if x1 = 0 then (Option.bind (gR cs 12 386 x0) fun v_2 => Option.bind (v_2) fun i_3 => Option.bind (gI cs 8 256 i_3) fun v_4 => some v_4) else (if x1 = 1 then (Option.bind (gR cs 12 386 x0) fun v_6 => Option.bind (v_6) fun i_8 => Option.bind (ckE cs 8 i_8) fun _ => Option.bind (c_X7_rowCount F cs i_8) fun v_7 => some v_7) else (if x1 = 2 then (Option.bind (gR cs 12 389 x0) fun v_11 => oc v_11 (c_X11_told_b78 F cs 0) (fun i_12 => Option.bind (gR cs 12 389 x0) fun v_13 => Option.bind (gR cs 12 386 x0) fun v_14 => Option.bind (v_14) fun i_15 => Option.bind (v_13) fun i_17 => Option.bind (ckE cs 10 i_17) fun _ => Option.bind (c_X9_visibleRows F cs i_17 i_15) fun v_16 => c_X11_told_b78 F cs v_16)) else (if x1 = 3 then (Option.bind (gR cs 12 389 x0) fun v_20 => oc v_20 (c_X11_told_b100 F cs 0) (fun i_21 => Option.bind (gR cs 12 389 x0) fun v_22 => Option.bind (v_22) fun i_23 => Option.bind (gR cs 10 322 i_23) fun v_24 => Option.bind (v_24) fun i_25 => Option.bind (gI cs 2 64 i_25) fun v_26 => c_X11_told_b100 F cs v_26)) else (if x1 = 4 then (Option.bind (gR cs 12 389 x0) fun v_28 => oc v_28 (c_X11_told_b119 F cs 0) (fun i_29 => Option.bind (gR cs 12 389 x0) fun v_30 => Option.bind (v_30) fun i_31 => Option.bind (gI cs 10 325 i_31) fun v_32 => c_X11_told_b119 F cs v_32)) else (if x1 = 5 then (Option.bind (gR cs 12 389 x0) fun v_34 => oc v_34 (c_X11_told_b132 F cs 0) (fun i_35 => c_X11_told_b132 F cs 1)) else (some (-1)))))))
set_option maxHeartbeats 4000000 in
set_option maxRecDepth 100000 in
theorem sc_X11_told (l : Launch) (dC : Nat → ClassId) (dI : Nat → Nat → Nat) (cB cI cJ cZ cS cO : ClassId) (b : Nat) (K V : Nat → Nat) (fz : Value) (F : Nat) (cs : CS) (x0 : Nat) (x1 : Int32) (r9 : Int32) (hf : c_X11_told F cs x0 x1 = some r9) : ocI l dC dI cB cI cJ cZ cS cO b K V fz yX11_told (wsOf yX11_told cX11_told 2 (some .int)) (4) [.ref (b + x0), .int x1] cs cs r9 := by
  intro sz
  refine Met.ofW (cc := cX11_told) (maxL := 2) (ret := (some .int)) (by decide) rfl ?_
  intro p e s m args below meth c s₁ B hml hv
  obtain ⟨rfl, hsz, hP, hK, hD0, hZ⟩ := hv
  have hx := B.exec
  have hb := B.bytes
  have hr := B.returns
  have hts := atoms_spec (ws := (wsOf yX11_told cX11_told 2 (some .int))) B.pre
  have hown : s.vm.findClass RX11 = some m.cls := findClass_of_methodNamed B.named
  have hlocks := B.notSynchronized
  subst hsz
  have hD := hD0.self (sz := s.heap.size)
  generalize hAe : va_A (cW cB cI cJ cZ cS cO b cs) s.heap.size = A at hD hZ ⊢
  have hA : ∀ q : Nat, s.heap.size ≤ q → A q := fun q h => by rw [← hAe]; exact Or.inr h
  have hS : va_S A s.heap s.heap [] := va_S.rf
  have hl := lv_entry ([.ref (b + x0), .int x1]) (n := 2) (Nat.le_of_ble_eq_true rfl)
  rw [lg_entry_eq]
  generalize (lg_sl ([.ref (b + x0), .int x1]) ++ List.replicate (2 - (lg_sl ([.ref (b + x0), .int x1])).length) Slot.unset).toArray = ls at hl ⊢
  have hl : lv_has ls 2 [(0, .ref (b + x0)), (1, .int x1)] := hl
  have B_78 : ∀ (y0 : Int32), c_X11_told_b78 F cs y0 = some r9 → ∀ (H : Heap) (locs : List Loc) (ls : Array Slot), va_P (dC, dI) vwCl (cW cB cI cJ cZ cS cO b cs) H → va_D A (cW cB cI cJ cZ cS cO b cs) → va_S A s.heap H locs → lv_has ls 2 [] → W p l e (headSpec (wsOf yX11_told cX11_told 2 (some .int)) ({ frames := 4, cells := 0, slots := 0, locals := 60 * (4) } : Room)).room s m ([.ref (b + x0), .int x1] : List Value).toArray below meth c H locs 0 0 (MQ below (va_Qi (fun (x : Int32) (_ : Unit) => x = r9) (fun _ t_ => va_P (dC, dI) vwCl (cW cB cI cJ cZ cS cO b cs) t_.heap ∧ va_D A (cW cB cI cJ cZ cS cO b cs)) A) ([.ref (b + x0), .int x1] : List Value).toArray s 0 0 A) (F0 m 78 ls [.int y0]) := by
    intro y0 h H locs ls hP hD hS hl
    unfold c_X11_told_b78 at h
    have e2 := Option.some.inj h
    exact W.iret (v := y0) hx hb hr (fun t_ ht hW => ⟨⟨y0, (), rfl, e2, by rw [ht]; exact hP, hD⟩, hS.F ht⟩) hS.2.2 dX11_told_78
  have B_100 : ∀ (y0 : Int32), c_X11_told_b100 F cs y0 = some r9 → ∀ (H : Heap) (locs : List Loc) (ls : Array Slot), va_P (dC, dI) vwCl (cW cB cI cJ cZ cS cO b cs) H → va_D A (cW cB cI cJ cZ cS cO b cs) → va_S A s.heap H locs → lv_has ls 2 [] → W p l e (headSpec (wsOf yX11_told cX11_told 2 (some .int)) ({ frames := 4, cells := 0, slots := 0, locals := 60 * (4) } : Room)).room s m ([.ref (b + x0), .int x1] : List Value).toArray below meth c H locs 0 0 (MQ below (va_Qi (fun (x : Int32) (_ : Unit) => x = r9) (fun _ t_ => va_P (dC, dI) vwCl (cW cB cI cJ cZ cS cO b cs) t_.heap ∧ va_D A (cW cB cI cJ cZ cS cO b cs)) A) ([.ref (b + x0), .int x1] : List Value).toArray s 0 0 A) (F0 m 100 ls [.int y0]) := by
    intro y0 h H locs ls hP hD hS hl
    unfold c_X11_told_b100 at h
    have e2 := Option.some.inj h
    exact W.iret (v := y0) hx hb hr (fun t_ ht hW => ⟨⟨y0, (), rfl, e2, by rw [ht]; exact hP, hD⟩, hS.F ht⟩) hS.2.2 dX11_told_100
  have B_119 : ∀ (y0 : Int32), c_X11_told_b119 F cs y0 = some r9 → ∀ (H : Heap) (locs : List Loc) (ls : Array Slot), va_P (dC, dI) vwCl (cW cB cI cJ cZ cS cO b cs) H → va_D A (cW cB cI cJ cZ cS cO b cs) → va_S A s.heap H locs → lv_has ls 2 [] → W p l e (headSpec (wsOf yX11_told cX11_told 2 (some .int)) ({ frames := 4, cells := 0, slots := 0, locals := 60 * (4) } : Room)).room s m ([.ref (b + x0), .int x1] : List Value).toArray below meth c H locs 0 0 (MQ below (va_Qi (fun (x : Int32) (_ : Unit) => x = r9) (fun _ t_ => va_P (dC, dI) vwCl (cW cB cI cJ cZ cS cO b cs) t_.heap ∧ va_D A (cW cB cI cJ cZ cS cO b cs)) A) ([.ref (b + x0), .int x1] : List Value).toArray s 0 0 A) (F0 m 119 ls [.int y0]) := by
    intro y0 h H locs ls hP hD hS hl
    unfold c_X11_told_b119 at h
    have e2 := Option.some.inj h
    exact W.iret (v := y0) hx hb hr (fun t_ ht hW => ⟨⟨y0, (), rfl, e2, by rw [ht]; exact hP, hD⟩, hS.F ht⟩) hS.2.2 dX11_told_119
  have B_132 : ∀ (y0 : Int32), c_X11_told_b132 F cs y0 = some r9 → ∀ (H : Heap) (locs : List Loc) (ls : Array Slot), va_P (dC, dI) vwCl (cW cB cI cJ cZ cS cO b cs) H → va_D A (cW cB cI cJ cZ cS cO b cs) → va_S A s.heap H locs → lv_has ls 2 [] → W p l e (headSpec (wsOf yX11_told cX11_told 2 (some .int)) ({ frames := 4, cells := 0, slots := 0, locals := 60 * (4) } : Room)).room s m ([.ref (b + x0), .int x1] : List Value).toArray below meth c H locs 0 0 (MQ below (va_Qi (fun (x : Int32) (_ : Unit) => x = r9) (fun _ t_ => va_P (dC, dI) vwCl (cW cB cI cJ cZ cS cO b cs) t_.heap ∧ va_D A (cW cB cI cJ cZ cS cO b cs)) A) ([.ref (b + x0), .int x1] : List Value).toArray s 0 0 A) (F0 m 132 ls [.int y0]) := by
    intro y0 h H locs ls hP hD hS hl
    unfold c_X11_told_b132 at h
    have e2 := Option.some.inj h
    exact W.iret (v := y0) hx hb hr (fun t_ ht hW => ⟨⟨y0, (), rfl, e2, by rw [ht]; exact hP, hD⟩, hS.F ht⟩) hS.2.2 dX11_told_132
  have h := hf
  unfold c_X11_told at h
  refine lv_iload_n hx hb dX11_told_0 rfl (lv_at hl 1 rfl) ?_
  by_cases c_1 : x1 = 0
  · skip
    replace h := (if_pos c_1).symm.trans h
    refine lv_tableIn (tgt := 40) (off := 39) hx hb dX11_told_1 (by rw [c_1]; decide) (by rw [c_1]; decide) (by rw [c_1]; decide) (by decide) ?_
    refine lv_aload_n hx hb dX11_told_40 rfl (lv_at hl 0 rfl) ?_
    replace h := ob h; obtain ⟨v_2, hv_2, h⟩ := h
    refine fg_X11_16 hx hb hts hown hK hP hv_2 dX11_told_41 ?_
    replace h := ob h; obtain ⟨i_3, hi_3, h⟩ := h
    subst hi_3
    replace h := ob h; obtain ⟨v_4, hv_4, h⟩ := h
    refine fg_X11_179 hx hb hts hown hK hP hv_4 dX11_told_44 ?_
    have e2 := Option.some.inj h
    exact W.iret (v := v_4) hx hb hr (fun t_ ht hW => ⟨⟨v_4, (), rfl, e2, by rw [ht]; exact hP, hD⟩, hS.F ht⟩) hS.2.2 dX11_told_47
  replace h := (if_neg c_1).symm.trans h
  by_cases c_5 : x1 = 1
  · skip
    replace h := (if_pos c_5).symm.trans h
    refine lv_tableIn (tgt := 48) (off := 47) hx hb dX11_told_1 (by rw [c_5]; decide) (by rw [c_5]; decide) (by rw [c_5]; decide) (by decide) ?_
    refine lv_aload_n hx hb dX11_told_48 rfl (lv_at hl 0 rfl) ?_
    replace h := ob h; obtain ⟨v_6, hv_6, h⟩ := h
    refine fg_X11_16 hx hb hts hown hK hP hv_6 dX11_told_49 ?_
    replace h := ob h; obtain ⟨i_8, hi_8, h⟩ := h
    subst hi_8
    replace h := ob h; obtain ⟨w_9, hw_9, h⟩ := h
    replace h := ob h; obtain ⟨v_7, hv_7, h⟩ := h
    refine ccI (As := []) hx hb hml hts hown hK hP hD hS hA hZ (X := 8) (by decide) rfl (ckE_some hw_9) (sc_X7_rowCount l dC dI cB cI cJ cZ cS cO b K V fz F cs i_8 v_7 hv_7) (cw_X11_X7_rowCount hts (fr := 0) (Nat.le_of_ble_eq_true rfl) (Nat.le_of_ble_eq_true rfl)) rfl hl.1 (Nat.le_of_ble_eq_true rfl) ⟨Nat.zero_le _, Nat.zero_le _⟩ dX11_told_52 (fun H locs hP hD hS => ?_)
    have e2 := Option.some.inj h
    exact W.iret (v := v_7) hx hb hr (fun t_ ht hW => ⟨⟨v_7, (), rfl, e2, by rw [ht]; exact hP, hD⟩, hS.F ht⟩) hS.2.2 dX11_told_55
  replace h := (if_neg c_5).symm.trans h
  by_cases c_10 : x1 = 2
  · skip
    replace h := (if_pos c_10).symm.trans h
    refine lv_tableIn (tgt := 56) (off := 55) hx hb dX11_told_1 (by rw [c_10]; decide) (by rw [c_10]; decide) (by rw [c_10]; decide) (by decide) ?_
    refine lv_aload_n hx hb dX11_told_56 rfl (lv_at hl 0 rfl) ?_
    replace h := ob h; obtain ⟨v_11, hv_11, h⟩ := h
    refine fg_X11_107 hx hb hts hown hK hP hv_11 dX11_told_57 ?_
    cases v_11 with
    | none =>
      replace h := oc_n.symm.trans h
      refine lv_ifnonnullN hx hb dX11_told_60 ?_
      refine lv_iconst (v := 0) hx hb dX11_told_63 (by decide) ?_
      refine lv_goto (tgt := 78) hx hb dX11_told_64 (by decide) ?_
      exact B_78 0 h _ _ _ hP hD hS (lv_sub hl [] rfl)
    | some i_12 =>
      replace h := oc_s.symm.trans h
      refine lv_ifnonnull (tgt := 67) hx hb dX11_told_60 (by decide) ?_
      refine lv_aload_n hx hb dX11_told_67 rfl (lv_at hl 0 rfl) ?_
      replace h := ob h; obtain ⟨v_13, hv_13, h⟩ := h
      refine fg_X11_107 hx hb hts hown hK hP hv_13 dX11_told_68 ?_
      refine lv_aload_n hx hb dX11_told_71 rfl (lv_at hl 0 rfl) ?_
      replace h := ob h; obtain ⟨v_14, hv_14, h⟩ := h
      refine fg_X11_16 hx hb hts hown hK hP hv_14 dX11_told_72 ?_
      replace h := ob h; obtain ⟨i_15, hi_15, h⟩ := h
      subst hi_15
      replace h := ob h; obtain ⟨i_17, hi_17, h⟩ := h
      subst hi_17
      replace h := ob h; obtain ⟨w_18, hw_18, h⟩ := h
      replace h := ob h; obtain ⟨v_16, hv_16, h⟩ := h
      refine ccI (As := [.ref (b + i_15)]) hx hb hml hts hown hK hP hD hS hA hZ (X := 10) (by decide) rfl (ckE_some hw_18) (sc_X9_visibleRows l dC dI cB cI cJ cZ cS cO b K V fz F cs i_17 i_15 v_16 hv_16) (cw_X11_X9_visibleRows hts (fr := 3) (Nat.le_of_ble_eq_true rfl) (Nat.le_of_ble_eq_true rfl)) rfl hl.1 (Nat.le_of_ble_eq_true rfl) ⟨Nat.zero_le _, Nat.zero_le _⟩ dX11_told_75 (fun H locs hP hD hS => ?_)
      exact B_78 v_16 h _ _ _ hP hD hS (lv_sub hl [] rfl)
  replace h := (if_neg c_10).symm.trans h
  by_cases c_19 : x1 = 3
  · skip
    replace h := (if_pos c_19).symm.trans h
    refine lv_tableIn (tgt := 79) (off := 78) hx hb dX11_told_1 (by rw [c_19]; decide) (by rw [c_19]; decide) (by rw [c_19]; decide) (by decide) ?_
    refine lv_aload_n hx hb dX11_told_79 rfl (lv_at hl 0 rfl) ?_
    replace h := ob h; obtain ⟨v_20, hv_20, h⟩ := h
    refine fg_X11_107 hx hb hts hown hK hP hv_20 dX11_told_80 ?_
    cases v_20 with
    | none =>
      replace h := oc_n.symm.trans h
      refine lv_ifnonnullN hx hb dX11_told_83 ?_
      refine lv_iconst (v := 0) hx hb dX11_told_86 (by decide) ?_
      refine lv_goto (tgt := 100) hx hb dX11_told_87 (by decide) ?_
      exact B_100 0 h _ _ _ hP hD hS (lv_sub hl [] rfl)
    | some i_21 =>
      replace h := oc_s.symm.trans h
      refine lv_ifnonnull (tgt := 90) hx hb dX11_told_83 (by decide) ?_
      refine lv_aload_n hx hb dX11_told_90 rfl (lv_at hl 0 rfl) ?_
      replace h := ob h; obtain ⟨v_22, hv_22, h⟩ := h
      refine fg_X11_107 hx hb hts hown hK hP hv_22 dX11_told_91 ?_
      replace h := ob h; obtain ⟨i_23, hi_23, h⟩ := h
      subst hi_23
      replace h := ob h; obtain ⟨v_24, hv_24, h⟩ := h
      refine fg_X11_113 hx hb hts hown hK hP hv_24 dX11_told_94 ?_
      replace h := ob h; obtain ⟨i_25, hi_25, h⟩ := h
      subst hi_25
      replace h := ob h; obtain ⟨v_26, hv_26, h⟩ := h
      refine fg_X11_189 hx hb hts hown hK hP hv_26 dX11_told_97 ?_
      exact B_100 v_26 h _ _ _ hP hD hS (lv_sub hl [] rfl)
  replace h := (if_neg c_19).symm.trans h
  by_cases c_27 : x1 = 4
  · skip
    replace h := (if_pos c_27).symm.trans h
    refine lv_tableIn (tgt := 101) (off := 100) hx hb dX11_told_1 (by rw [c_27]; decide) (by rw [c_27]; decide) (by rw [c_27]; decide) (by decide) ?_
    refine lv_aload_n hx hb dX11_told_101 rfl (lv_at hl 0 rfl) ?_
    replace h := ob h; obtain ⟨v_28, hv_28, h⟩ := h
    refine fg_X11_107 hx hb hts hown hK hP hv_28 dX11_told_102 ?_
    cases v_28 with
    | none =>
      replace h := oc_n.symm.trans h
      refine lv_ifnonnullN hx hb dX11_told_105 ?_
      refine lv_iconst (v := 0) hx hb dX11_told_108 (by decide) ?_
      refine lv_goto (tgt := 119) hx hb dX11_told_109 (by decide) ?_
      exact B_119 0 h _ _ _ hP hD hS (lv_sub hl [] rfl)
    | some i_29 =>
      replace h := oc_s.symm.trans h
      refine lv_ifnonnull (tgt := 112) hx hb dX11_told_105 (by decide) ?_
      refine lv_aload_n hx hb dX11_told_112 rfl (lv_at hl 0 rfl) ?_
      replace h := ob h; obtain ⟨v_30, hv_30, h⟩ := h
      refine fg_X11_107 hx hb hts hown hK hP hv_30 dX11_told_113 ?_
      replace h := ob h; obtain ⟨i_31, hi_31, h⟩ := h
      subst hi_31
      replace h := ob h; obtain ⟨v_32, hv_32, h⟩ := h
      refine fg_X11_192 hx hb hts hown hK hP hv_32 dX11_told_116 ?_
      exact B_119 v_32 h _ _ _ hP hD hS (lv_sub hl [] rfl)
  replace h := (if_neg c_27).symm.trans h
  by_cases c_33 : x1 = 5
  · skip
    replace h := (if_pos c_33).symm.trans h
    refine lv_tableIn (tgt := 120) (off := 119) hx hb dX11_told_1 (by rw [c_33]; decide) (by rw [c_33]; decide) (by rw [c_33]; decide) (by decide) ?_
    refine lv_aload_n hx hb dX11_told_120 rfl (lv_at hl 0 rfl) ?_
    replace h := ob h; obtain ⟨v_34, hv_34, h⟩ := h
    refine fg_X11_107 hx hb hts hown hK hP hv_34 dX11_told_121 ?_
    cases v_34 with
    | none =>
      replace h := oc_n.symm.trans h
      refine lv_ifnonnullN hx hb dX11_told_124 ?_
      refine lv_iconst (v := 0) hx hb dX11_told_127 (by decide) ?_
      refine lv_goto (tgt := 132) hx hb dX11_told_128 (by decide) ?_
      exact B_132 0 h _ _ _ hP hD hS (lv_sub hl [] rfl)
    | some i_35 =>
      replace h := oc_s.symm.trans h
      refine lv_ifnonnull (tgt := 131) hx hb dX11_told_124 (by decide) ?_
      refine lv_iconst (v := 1) hx hb dX11_told_131 (by decide) ?_
      exact B_132 1 h _ _ _ hP hD hS (lv_sub hl [] rfl)
  replace h := (if_neg c_33).symm.trans h
  have n_1 : ¬ (x1 : Int32).toInt = 0 := lv_neT c_1 (by decide)
  have n_5 : ¬ (x1 : Int32).toInt = 1 := lv_neT c_5 (by decide)
  have n_10 : ¬ (x1 : Int32).toInt = 2 := lv_neT c_10 (by decide)
  have n_19 : ¬ (x1 : Int32).toInt = 3 := lv_neT c_19 (by decide)
  have n_27 : ¬ (x1 : Int32).toInt = 4 := lv_neT c_27 (by decide)
  have n_33 : ¬ (x1 : Int32).toInt = 5 := lv_neT c_33 (by decide)
  by_cases hq_1 : (x1 : Int32).toInt < 0 ∨ 5 < (x1 : Int32).toInt
  · skip
    refine lv_tableOut (tgt := 133) hx hb dX11_told_1 hq_1 (by decide) ?_
    refine lv_iconst (v := (-1)) hx hb dX11_told_133 (by decide) ?_
    have e2 := Option.some.inj h
    exact W.iret (v := (-1)) hx hb hr (fun t_ ht hW => ⟨⟨(-1), (), rfl, e2, by rw [ht]; exact hP, hD⟩, hS.F ht⟩) hS.2.2 dX11_told_134
  exfalso
  omega
theorem dX11_tellChanges_0 : decode cX11_tellChanges 0 = .ok (.aload_n 0, 1) := by decide +kernel
theorem dX11_tellChanges_1 : decode cX11_tellChanges 1 = .ok (.invokevirtual 127, 3) := by decide +kernel
theorem dX11_tellChanges_4 : decode cX11_tellChanges 4 = .ok (.istore 6, 2) := by decide +kernel
theorem dX11_tellChanges_6 : decode cX11_tellChanges 6 = .ok (.iconst 0, 1) := by decide +kernel
theorem dX11_tellChanges_7 : decode cX11_tellChanges 7 = .ok (.istore 7, 2) := by decide +kernel
theorem dX11_tellChanges_9 : decode cX11_tellChanges 9 = .ok (.iconst 0, 1) := by decide +kernel
theorem dX11_tellChanges_10 : decode cX11_tellChanges 10 = .ok (.istore 8, 2) := by decide +kernel
theorem dX11_tellChanges_12 : decode cX11_tellChanges 12 = .ok (.iconst 0, 1) := by decide +kernel
theorem dX11_tellChanges_13 : decode cX11_tellChanges 13 = .ok (.istore 9, 2) := by decide +kernel
theorem dX11_tellChanges_15 : decode cX11_tellChanges 15 = .ok (.iload 9, 2) := by decide +kernel
theorem dX11_tellChanges_17 : decode cX11_tellChanges 17 = .ok (.iload_n 2, 1) := by decide +kernel
theorem dX11_tellChanges_18 : decode cX11_tellChanges 18 = .ok (.if_icmp .ge 185, 3) := by decide +kernel
theorem dX11_tellChanges_21 : decode cX11_tellChanges 21 = .ok (.aload_n 1, 1) := by decide +kernel
theorem dX11_tellChanges_22 : decode cX11_tellChanges 22 = .ok (.iload 9, 2) := by decide +kernel
theorem dX11_tellChanges_24 : decode cX11_tellChanges 24 = .ok (.iload_n 2, 1) := by decide +kernel
theorem dX11_tellChanges_25 : decode cX11_tellChanges 25 = .ok (.iload 6, 2) := by decide +kernel
theorem dX11_tellChanges_27 : decode cX11_tellChanges 27 = .ok (.invokevirtual 226, 3) := by decide +kernel
theorem dX11_tellChanges_30 : decode cX11_tellChanges 30 = .ok (.istore 8, 2) := by decide +kernel
theorem dX11_tellChanges_32 : decode cX11_tellChanges 32 = .ok (.iload 7, 2) := by decide +kernel
theorem dX11_tellChanges_34 : decode cX11_tellChanges 34 = .ok (.iload 4, 2) := by decide +kernel
theorem dX11_tellChanges_36 : decode cX11_tellChanges 36 = .ok (.if_icmp .ge 30, 3) := by decide +kernel
theorem dX11_tellChanges_39 : decode cX11_tellChanges 39 = .ok (.aload_n 3, 1) := by decide +kernel
theorem dX11_tellChanges_40 : decode cX11_tellChanges 40 = .ok (.iload 7, 2) := by decide +kernel
theorem dX11_tellChanges_42 : decode cX11_tellChanges 42 = .ok (.iload 6, 2) := by decide +kernel
theorem dX11_tellChanges_44 : decode cX11_tellChanges 44 = .ok (.imul, 1) := by decide +kernel
theorem dX11_tellChanges_45 : decode cX11_tellChanges 45 = .ok (.aload_n 1, 1) := by decide +kernel
theorem dX11_tellChanges_46 : decode cX11_tellChanges 46 = .ok (.iload 9, 2) := by decide +kernel
theorem dX11_tellChanges_48 : decode cX11_tellChanges 48 = .ok (.iload 6, 2) := by decide +kernel
theorem dX11_tellChanges_50 : decode cX11_tellChanges 50 = .ok (.imul, 1) := by decide +kernel
theorem dX11_tellChanges_51 : decode cX11_tellChanges 51 = .ok (.iload 6, 2) := by decide +kernel
theorem dX11_tellChanges_53 : decode cX11_tellChanges 53 = .ok (.iconst 0, 1) := by decide +kernel
theorem dX11_tellChanges_54 : decode cX11_tellChanges 54 = .ok (.invokevirtual 229, 3) := by decide +kernel
theorem dX11_tellChanges_57 : decode cX11_tellChanges 57 = .ok (.ifCond .ge 9, 3) := by decide +kernel
theorem dX11_tellChanges_60 : decode cX11_tellChanges 60 = .ok (.iinc 7 1, 3) := by decide +kernel
theorem dX11_tellChanges_63 : decode cX11_tellChanges 63 = .ok (.goto (-31), 3) := by decide +kernel
theorem dX11_tellChanges_66 : decode cX11_tellChanges 66 = .ok (.iload 7, 2) := by decide +kernel
theorem dX11_tellChanges_68 : decode cX11_tellChanges 68 = .ok (.iload 4, 2) := by decide +kernel
theorem dX11_tellChanges_70 : decode cX11_tellChanges 70 = .ok (.if_icmp .ge 28, 3) := by decide +kernel
theorem dX11_tellChanges_73 : decode cX11_tellChanges 73 = .ok (.aload_n 3, 1) := by decide +kernel
theorem dX11_tellChanges_74 : decode cX11_tellChanges 74 = .ok (.iload 7, 2) := by decide +kernel
theorem dX11_tellChanges_76 : decode cX11_tellChanges 76 = .ok (.iload 6, 2) := by decide +kernel
theorem dX11_tellChanges_78 : decode cX11_tellChanges 78 = .ok (.imul, 1) := by decide +kernel
theorem dX11_tellChanges_79 : decode cX11_tellChanges 79 = .ok (.aload_n 1, 1) := by decide +kernel
theorem dX11_tellChanges_80 : decode cX11_tellChanges 80 = .ok (.iload 9, 2) := by decide +kernel
theorem dX11_tellChanges_82 : decode cX11_tellChanges 82 = .ok (.iload 6, 2) := by decide +kernel
theorem dX11_tellChanges_84 : decode cX11_tellChanges 84 = .ok (.imul, 1) := by decide +kernel
theorem dX11_tellChanges_85 : decode cX11_tellChanges 85 = .ok (.iload 6, 2) := by decide +kernel
theorem dX11_tellChanges_87 : decode cX11_tellChanges 87 = .ok (.iconst 0, 1) := by decide +kernel
theorem dX11_tellChanges_88 : decode cX11_tellChanges 88 = .ok (.invokevirtual 229, 3) := by decide +kernel
theorem dX11_tellChanges_91 : decode cX11_tellChanges 91 = .ok (.ifCond .ne 7, 3) := by decide +kernel
theorem dX11_tellChanges_94 : decode cX11_tellChanges 94 = .ok (.iconst 1, 1) := by decide +kernel
theorem dX11_tellChanges_95 : decode cX11_tellChanges 95 = .ok (.goto 4, 3) := by decide +kernel
theorem dX11_tellChanges_98 : decode cX11_tellChanges 98 = .ok (.iconst 0, 1) := by decide +kernel
theorem dX11_tellChanges_99 : decode cX11_tellChanges 99 = .ok (.istore 10, 2) := by decide +kernel
theorem dX11_tellChanges_101 : decode cX11_tellChanges 101 = .ok (.iload 8, 2) := by decide +kernel
theorem dX11_tellChanges_103 : decode cX11_tellChanges 103 = .ok (.iload 10, 2) := by decide +kernel
theorem dX11_tellChanges_105 : decode cX11_tellChanges 105 = .ok (.ifCond .eq 16, 3) := by decide +kernel
theorem dX11_tellChanges_108 : decode cX11_tellChanges 108 = .ok (.aload_n 3, 1) := by decide +kernel
theorem dX11_tellChanges_109 : decode cX11_tellChanges 109 = .ok (.iload 7, 2) := by decide +kernel
theorem dX11_tellChanges_111 : decode cX11_tellChanges 111 = .ok (.iload 4, 2) := by decide +kernel
theorem dX11_tellChanges_113 : decode cX11_tellChanges 113 = .ok (.iload 6, 2) := by decide +kernel
theorem dX11_tellChanges_115 : decode cX11_tellChanges 115 = .ok (.invokevirtual 226, 3) := by decide +kernel
theorem dX11_tellChanges_118 : decode cX11_tellChanges 118 = .ok (.goto 4, 3) := by decide +kernel
theorem dX11_tellChanges_121 : decode cX11_tellChanges 121 = .ok (.iconst 0, 1) := by decide +kernel
theorem dX11_tellChanges_122 : decode cX11_tellChanges 122 = .ok (.isub, 1) := by decide +kernel
theorem dX11_tellChanges_123 : decode cX11_tellChanges 123 = .ok (.istore 11, 2) := by decide +kernel
theorem dX11_tellChanges_125 : decode cX11_tellChanges 125 = .ok (.iload 11, 2) := by decide +kernel
theorem dX11_tellChanges_127 : decode cX11_tellChanges 127 = .ok (.ifCond .le 62, 3) := by decide +kernel
theorem dX11_tellChanges_130 : decode cX11_tellChanges 130 = .ok (.aload_n 0, 1) := by decide +kernel
theorem dX11_tellChanges_131 : decode cX11_tellChanges 131 = .ok (.getfield 98, 3) := by decide +kernel
theorem dX11_tellChanges_134 : decode cX11_tellChanges 134 = .ok (.aload_n 0, 1) := by decide +kernel
theorem dX11_tellChanges_135 : decode cX11_tellChanges 135 = .ok (.getfield 43, 3) := by decide +kernel
theorem dX11_tellChanges_138 : decode cX11_tellChanges 138 = .ok (.arraylength, 1) := by decide +kernel
theorem dX11_tellChanges_139 : decode cX11_tellChanges 139 = .ok (.if_icmp .ge 50, 3) := by decide +kernel
theorem dX11_tellChanges_142 : decode cX11_tellChanges 142 = .ok (.aload_n 0, 1) := by decide +kernel
theorem dX11_tellChanges_143 : decode cX11_tellChanges 143 = .ok (.getfield 98, 3) := by decide +kernel
theorem dX11_tellChanges_146 : decode cX11_tellChanges 146 = .ok (.aload_n 0, 1) := by decide +kernel
theorem dX11_tellChanges_147 : decode cX11_tellChanges 147 = .ok (.getfield 47, 3) := by decide +kernel
theorem dX11_tellChanges_150 : decode cX11_tellChanges 150 = .ok (.arraylength, 1) := by decide +kernel
theorem dX11_tellChanges_151 : decode cX11_tellChanges 151 = .ok (.if_icmp .ge 38, 3) := by decide +kernel
theorem dX11_tellChanges_154 : decode cX11_tellChanges 154 = .ok (.aload_n 0, 1) := by decide +kernel
theorem dX11_tellChanges_155 : decode cX11_tellChanges 155 = .ok (.getfield 43, 3) := by decide +kernel
theorem dX11_tellChanges_158 : decode cX11_tellChanges 158 = .ok (.aload_n 0, 1) := by decide +kernel
theorem dX11_tellChanges_159 : decode cX11_tellChanges 159 = .ok (.getfield 98, 3) := by decide +kernel
theorem dX11_tellChanges_162 : decode cX11_tellChanges 162 = .ok (.iload 9, 2) := by decide +kernel
theorem dX11_tellChanges_164 : decode cX11_tellChanges 164 = .ok (.iastore, 1) := by decide +kernel
theorem dX11_tellChanges_165 : decode cX11_tellChanges 165 = .ok (.aload_n 0, 1) := by decide +kernel
theorem dX11_tellChanges_166 : decode cX11_tellChanges 166 = .ok (.getfield 47, 3) := by decide +kernel
theorem dX11_tellChanges_169 : decode cX11_tellChanges 169 = .ok (.aload_n 0, 1) := by decide +kernel
theorem dX11_tellChanges_170 : decode cX11_tellChanges 170 = .ok (.getfield 98, 3) := by decide +kernel
theorem dX11_tellChanges_173 : decode cX11_tellChanges 173 = .ok (.iload 5, 2) := by decide +kernel
theorem dX11_tellChanges_175 : decode cX11_tellChanges 175 = .ok (.iload 11, 2) := by decide +kernel
theorem dX11_tellChanges_177 : decode cX11_tellChanges 177 = .ok (.imul, 1) := by decide +kernel
theorem dX11_tellChanges_178 : decode cX11_tellChanges 178 = .ok (.iastore, 1) := by decide +kernel
theorem dX11_tellChanges_179 : decode cX11_tellChanges 179 = .ok (.aload_n 0, 1) := by decide +kernel
theorem dX11_tellChanges_180 : decode cX11_tellChanges 180 = .ok (.dup, 1) := by decide +kernel
theorem dX11_tellChanges_181 : decode cX11_tellChanges 181 = .ok (.getfield 98, 3) := by decide +kernel
theorem dX11_tellChanges_184 : decode cX11_tellChanges 184 = .ok (.iconst 1, 1) := by decide +kernel
theorem dX11_tellChanges_185 : decode cX11_tellChanges 185 = .ok (.iadd, 1) := by decide +kernel
theorem dX11_tellChanges_186 : decode cX11_tellChanges 186 = .ok (.putfield 98, 3) := by decide +kernel
theorem dX11_tellChanges_189 : decode cX11_tellChanges 189 = .ok (.iload 9, 2) := by decide +kernel
theorem dX11_tellChanges_191 : decode cX11_tellChanges 191 = .ok (.iload 8, 2) := by decide +kernel
theorem dX11_tellChanges_193 : decode cX11_tellChanges 193 = .ok (.iconst 1, 1) := by decide +kernel
theorem dX11_tellChanges_194 : decode cX11_tellChanges 194 = .ok (.invokestatic 233, 3) := by decide +kernel
theorem dX11_tellChanges_197 : decode cX11_tellChanges 197 = .ok (.iadd, 1) := by decide +kernel
theorem dX11_tellChanges_198 : decode cX11_tellChanges 198 = .ok (.istore 9, 2) := by decide +kernel
theorem dX11_tellChanges_200 : decode cX11_tellChanges 200 = .ok (.goto (-185), 3) := by decide +kernel
theorem dX11_tellChanges_203 : decode cX11_tellChanges 203 = .ok (.return_, 1) := by decide +kernel
def c_X11_tellChanges_b189 (F : Nat) (rc15 : CS → Nat → Nat → Int32 → Nat → Int32 → Int32 → Int32 → Int32 → Int32 → Option CS) (cs1 : CS) (u0 : Nat) (u1 : Nat) (u2 : Int32) (u3 : Nat) (u4 : Int32) (u5 : Int32) (u6 : Int32) (u7 : Int32) (u8 : Int32) (u9 : Int32) : Option CS := rc15 cs1 u0 u1 u2 u3 u4 u5 u6 u7 (u9 + (if u8 < 1 then 1 else u8))
def c_X11_tellChanges_b122 (F : Nat) (rc15 : CS → Nat → Nat → Int32 → Nat → Int32 → Int32 → Int32 → Int32 → Int32 → Option CS) (cs1 : CS) (u0 : Nat) (u1 : Nat) (u2 : Int32) (u3 : Nat) (u4 : Int32) (u5 : Int32) (u6 : Int32) (u7 : Int32) (u8 : Int32) (u9 : Int32) (y0 : Int32) (y1 : Int32) : Option CS := if (y1 - y0) ≤ 0 then (c_X11_tellChanges_b189 F rc15 cs1 u0 u1 u2 u3 u4 u5 u6 u7 u8 u9) else (Option.bind (gI cs1 12 398 u0) fun v_2 => Option.bind (gA cs1 12 396 u0) fun v_3 => Option.bind (lnA cs1 396 u0 v_3) fun v_4 => if v_4 ≤ v_2 then (c_X11_tellChanges_b189 F rc15 cs1 u0 u1 u2 u3 u4 u5 u6 u7 u8 u9) else (Option.bind (gI cs1 12 398 u0) fun v_6 => Option.bind (gA cs1 12 397 u0) fun v_7 => Option.bind (lnA cs1 397 u0 v_7) fun v_8 => if v_8 ≤ v_6 then (c_X11_tellChanges_b189 F rc15 cs1 u0 u1 u2 u3 u4 u5 u6 u7 u8 u9) else (Option.bind (gA cs1 12 396 u0) fun v_10 => Option.bind (gI cs1 12 398 u0) fun v_11 => Option.bind (wA cs1 396 u0 v_10 v_11 u9) fun cs_12 => Option.bind (gA cs_12 12 397 u0) fun v_13 => Option.bind (gI cs_12 12 398 u0) fun v_14 => Option.bind (wA cs_12 397 u0 v_13 v_14 (u5 * (y1 - y0))) fun cs_15 => Option.bind (gI cs_15 12 398 u0) fun v_16 => Option.bind (pI cs_15 12 398 u0 (v_16 + 1)) fun cs_17 => c_X11_tellChanges_b189 F rc15 cs_17 u0 u1 u2 u3 u4 u5 u6 u7 u8 u9)))
def c_X11_tellChanges_b99 (F : Nat) (rc15 : CS → Nat → Nat → Int32 → Nat → Int32 → Int32 → Int32 → Int32 → Int32 → Option CS) (cs1 : CS) (u0 : Nat) (u1 : Nat) (u2 : Int32) (u3 : Nat) (u4 : Int32) (u5 : Int32) (u6 : Int32) (u7 : Int32) (u8 : Int32) (u9 : Int32) (y0 : Int32) : Option CS := if y0 = 0 then (c_X11_tellChanges_b122 F rc15 cs1 u0 u1 u2 u3 u4 u5 u6 u7 u8 u9 0 u8) else (Option.bind (ckE cs1 9 u3) fun _ => Option.bind (c_X8_repeats F cs1 u3 u7 u4 u6) fun v_19 => c_X11_tellChanges_b122 F rc15 cs1 u0 u1 u2 u3 u4 u5 u6 u7 u8 u9 v_19 u8)
def c_X11_tellChanges_b98 (F : Nat) (rc15 : CS → Nat → Nat → Int32 → Nat → Int32 → Int32 → Int32 → Int32 → Int32 → Option CS) (cs1 : CS) (u0 : Nat) (u1 : Nat) (u2 : Int32) (u3 : Nat) (u4 : Int32) (u5 : Int32) (u6 : Int32) (u7 : Int32) (u8 : Int32) (u9 : Int32) : Option CS := c_X11_tellChanges_b99 F rc15 cs1 u0 u1 u2 u3 u4 u5 u6 u7 u8 u9 0
def c_X11_tellChanges_b66 (F : Nat) (rc15 : CS → Nat → Nat → Int32 → Nat → Int32 → Int32 → Int32 → Int32 → Int32 → Option CS) (cs1 : CS) (u0 : Nat) (u1 : Nat) (u2 : Int32) (u3 : Nat) (u4 : Int32) (u5 : Int32) (u6 : Int32) (u7 : Int32) (u8 : Int32) (u9 : Int32) : Option CS := if u4 ≤ u7 then (c_X11_tellChanges_b98 F rc15 cs1 u0 u1 u2 u3 u4 u5 u6 u7 u8 u9) else (Option.bind (ckE cs1 9 u3) fun _ => Option.bind (c_X8_compareRows F cs1 u3 (u7 * u6) u1 (u9 * u6) u6 0) fun v_22 => if v_22 = 0 then (c_X11_tellChanges_b99 F rc15 cs1 u0 u1 u2 u3 u4 u5 u6 u7 u8 u9 1) else (c_X11_tellChanges_b98 F rc15 cs1 u0 u1 u2 u3 u4 u5 u6 u7 u8 u9))
def c_X11_tellChanges_L32 (F : Nat) (rc15 : CS → Nat → Nat → Int32 → Nat → Int32 → Int32 → Int32 → Int32 → Int32 → Option CS) : Nat → CS → Nat → Nat → Int32 → Nat → Int32 → Int32 → Int32 → Int32 → Int32 → Int32 → Option CS
  | 0, _, _, _, _, _, _, _, _, _, _, _ => none
  | lf_32 + 1, cs1, u0, u1, u2, u3, u4, u5, u6, u7, u8, u9 => if u4 ≤ u7 then (c_X11_tellChanges_b66 F rc15 cs1 u0 u1 u2 u3 u4 u5 u6 u7 u8 u9) else (Option.bind (ckE cs1 9 u3) fun _ => Option.bind (c_X8_compareRows F cs1 u3 (u7 * u6) u1 (u9 * u6) u6 0) fun v_26 => if 0 ≤ v_26 then (c_X11_tellChanges_b66 F rc15 cs1 u0 u1 u2 u3 u4 u5 u6 u7 u8 u9) else ((c_X11_tellChanges_L32 F rc15 lf_32) cs1 u0 u1 u2 u3 u4 u5 u6 (u7 + 1) u8 u9))
def c_X11_tellChanges_L15 (F : Nat) : Nat → CS → Nat → Nat → Int32 → Nat → Int32 → Int32 → Int32 → Int32 → Int32 → Option CS
  | 0, _, _, _, _, _, _, _, _, _, _ => none
  | lf_15 + 1, cs1, u0, u1, u2, u3, u4, u5, u6, u7, u9 => if u2 ≤ u9 then (some cs1) else (Option.bind (ckE cs1 9 u1) fun _ => Option.bind (c_X8_repeats F cs1 u1 u9 u2 u6) fun v_30 => c_X11_tellChanges_L32 F (c_X11_tellChanges_L15 F lf_15) F cs1 u0 u1 u2 u3 u4 u5 u6 u7 v_30 u9)
def c_X11_tellChanges (F : Nat) (cs : CS) (x0 : Nat) (x1 : Nat) (x2 : Int32) (x3 : Nat) (x4 : Int32) (x5 : Int32) : Option CS := Option.bind (ckE cs 12 x0) fun _ => Option.bind (c_X11_width F cs x0) fun v_32 => c_X11_tellChanges_L15 F F cs x0 x1 x2 x3 x4 x5 v_32 0 0
theorem cw_X11_X11_tellChanges {R : Room} {s : State} {args : Array Value} {y0 : MethodName} {c0 : ByteArray} {n0 : Nat} {r0 : Option FieldType} (hts : ∀ w ∈ wsOf y0 c0 n0 r0, w.before args s = true) {fr : Nat} (h1 : fr + 1 ≤ R.frames) (h2 : 8 + (12 + 11) + 60 * fr ≤ R.locals) : CallW R s args RX11 RX11 222 yX11_tellChanges cX11_tellChanges 12 none (wsOf yX11_tellChanges cX11_tellChanges 12 none) ({ frames := fr, cells := 0, slots := 0, locals := 60 * fr } : Room) 0 0 5 := cwV 5 hts (gd_all (in_V kw_1555 kw_1557 kw_91 kw_181 kc_X11_tellChanges)) rfl rfl rfl (by decide +kernel) ⟨h1, h2⟩
set_option maxHeartbeats 4000000 in
set_option maxRecDepth 100000 in
theorem sc_X11_tellChanges (l : Launch) (dC : Nat → ClassId) (dI : Nat → Nat → Nat) (cB cI cJ cZ cS cO : ClassId) (b : Nat) (K V : Nat → Nat) (fz : Value) (F : Nat) (cs : CS) (x0 : Nat) (x1 : Nat) (x2 : Int32) (x3 : Nat) (x4 : Int32) (x5 : Int32) (cs9 : CS) (hf : c_X11_tellChanges F cs x0 x1 x2 x3 x4 x5 = some cs9) : ocV l dC dI cB cI cJ cZ cS cO b K V fz yX11_tellChanges (wsOf yX11_tellChanges cX11_tellChanges 12 none) (3) [.ref (b + x0), .ref (b + x1), .int x2, .ref (b + x3), .int x4, .int x5] cs cs9 := by
  intro sz
  refine Met.ofW (cc := cX11_tellChanges) (maxL := 12) (ret := none) (by decide) rfl ?_
  intro p e s m args below meth c s₁ B hml hv
  obtain ⟨rfl, hsz, hP, hK, hD0, hZ⟩ := hv
  have hx := B.exec
  have hb := B.bytes
  have hr := B.returns
  have hts := atoms_spec (ws := (wsOf yX11_tellChanges cX11_tellChanges 12 none)) B.pre
  have hown : s.vm.findClass RX11 = some m.cls := findClass_of_methodNamed B.named
  have hlocks := B.notSynchronized
  subst hsz
  have hD := hD0.self (sz := s.heap.size)
  generalize hAe : va_A (cW cB cI cJ cZ cS cO b cs) s.heap.size = A at hD hZ ⊢
  have hA : ∀ q : Nat, s.heap.size ≤ q → A q := fun q h => by rw [← hAe]; exact Or.inr h
  have hS : va_S A s.heap s.heap [] := va_S.rf
  have hl := lv_entry ([.ref (b + x0), .ref (b + x1), .int x2, .ref (b + x3), .int x4, .int x5]) (n := 12) (Nat.le_of_ble_eq_true rfl)
  rw [lg_entry_eq]
  generalize (lg_sl ([.ref (b + x0), .ref (b + x1), .int x2, .ref (b + x3), .int x4, .int x5]) ++ List.replicate (12 - (lg_sl ([.ref (b + x0), .ref (b + x1), .int x2, .ref (b + x3), .int x4, .int x5])).length) Slot.unset).toArray = ls at hl ⊢
  have hl : lv_has ls 12 [(0, .ref (b + x0)), (1, .ref (b + x1)), (2, .int x2), (3, .ref (b + x3)), (4, .int x4), (5, .int x5)] := hl
  have L_15 : ∀ (lf_15 : Nat), ∀ (cs1 : CS) (u0 : Nat) (u1 : Nat) (u2 : Int32) (u3 : Nat) (u4 : Int32) (u5 : Int32) (u6 : Int32) (u7 : Int32) (u9 : Int32), c_X11_tellChanges_L15 F lf_15 cs1 u0 u1 u2 u3 u4 u5 u6 u7 u9 = some cs9 → ∀ (H : Heap) (locs : List Loc) (ls : Array Slot), va_P (dC, dI) vwCl (cW cB cI cJ cZ cS cO b cs1) H → va_D A (cW cB cI cJ cZ cS cO b cs1) → va_S A s.heap H locs → lv_has ls 12 [(0, .ref (b + u0)), (1, .ref (b + u1)), (2, .int u2), (3, .ref (b + u3)), (4, .int u4), (5, .int u5), (6, .int u6), (7, .int u7), (9, .int u9)] → W p l e (headSpec (wsOf yX11_tellChanges cX11_tellChanges 12 none) ({ frames := 3, cells := 0, slots := 0, locals := 60 * (3) } : Room)).room s m ([.ref (b + x0), .ref (b + x1), .int x2, .ref (b + x3), .int x4, .int x5] : List Value).toArray below meth c H locs 0 0 (MQ below (va_Qv (fun (_ : Unit) => True) (fun _ t_ => va_P (dC, dI) vwCl (cW cB cI cJ cZ cS cO b cs9) t_.heap ∧ va_D A (cW cB cI cJ cZ cS cO b cs9)) A) ([.ref (b + x0), .ref (b + x1), .int x2, .ref (b + x3), .int x4, .int x5] : List Value).toArray s 0 0 A) (F0 m 15 ls []) := by
    intro lf_15
    induction lf_15 with
    | zero => intro cs1 u0 u1 u2 u3 u4 u5 u6 u7 u9 h; cases (show (none : Option CS) = _ from h)
    | succ lf_15 ih_15 =>
      have B_189 : ∀ (cs1 : CS) (u0 : Nat) (u1 : Nat) (u2 : Int32) (u3 : Nat) (u4 : Int32) (u5 : Int32) (u6 : Int32) (u7 : Int32) (u8 : Int32) (u9 : Int32), c_X11_tellChanges_b189 F (c_X11_tellChanges_L15 F lf_15) cs1 u0 u1 u2 u3 u4 u5 u6 u7 u8 u9 = some cs9 → ∀ (H : Heap) (locs : List Loc) (ls : Array Slot), va_P (dC, dI) vwCl (cW cB cI cJ cZ cS cO b cs1) H → va_D A (cW cB cI cJ cZ cS cO b cs1) → va_S A s.heap H locs → lv_has ls 12 [(0, .ref (b + u0)), (1, .ref (b + u1)), (2, .int u2), (3, .ref (b + u3)), (4, .int u4), (5, .int u5), (6, .int u6), (7, .int u7), (8, .int u8), (9, .int u9)] → W p l e (headSpec (wsOf yX11_tellChanges cX11_tellChanges 12 none) ({ frames := 3, cells := 0, slots := 0, locals := 60 * (3) } : Room)).room s m ([.ref (b + x0), .ref (b + x1), .int x2, .ref (b + x3), .int x4, .int x5] : List Value).toArray below meth c H locs 0 0 (MQ below (va_Qv (fun (_ : Unit) => True) (fun _ t_ => va_P (dC, dI) vwCl (cW cB cI cJ cZ cS cO b cs9) t_.heap ∧ va_D A (cW cB cI cJ cZ cS cO b cs9)) A) ([.ref (b + x0), .ref (b + x1), .int x2, .ref (b + x3), .int x4, .int x5] : List Value).toArray s 0 0 A) (F0 m 189 ls []) := by
        intro cs1 u0 u1 u2 u3 u4 u5 u6 u7 u8 u9 h H locs ls hP hD hS hl
        unfold c_X11_tellChanges_b189 at h
        refine lv_iload hx hb dX11_tellChanges_189 (lv_at hl 9 rfl) ?_
        refine lv_iload hx hb dX11_tellChanges_191 (lv_at hl 8 rfl) ?_
        refine lv_iconst (v := 1) hx hb dX11_tellChanges_193 (by decide) ?_
        refine va_mmax (x := u8) (y := 1) hx hb (hml.trans hl.1.symm) hown (hts _ (List.mem_cons_of_mem _ kw_1564)) (hts _ (List.mem_cons_of_mem _ kw_369)) (hts _ (List.mem_cons_of_mem _ kw_190)) (hts _ (List.mem_cons_of_mem _ kc_max)) (Nat.le_of_ble_eq_true rfl) (Nat.le_of_ble_eq_true rfl) (Nat.zero_le _) (Nat.zero_le _) dX11_tellChanges_194 ?_
        refine lv_iadd hx hb dX11_tellChanges_197 ?_
        refine lv_istore (lv' := [(9, .int (u9 + (if u8 < 1 then 1 else u8))), (0, .ref (b + u0)), (1, .ref (b + u1)), (2, .int u2), (3, .ref (b + u3)), (4, .int u4), (5, .int u5), (6, .int u6), (7, .int u7), (8, .int u8)]) hx hb dX11_tellChanges_198 hl (by decide) rfl (fun ls hl => ?_)
        refine lv_goto (tgt := 15) hx hb dX11_tellChanges_200 (by decide) ?_
        exact ih_15 cs1 u0 u1 u2 u3 u4 u5 u6 u7 (u9 + (if u8 < 1 then 1 else u8)) h _ _ _ hP hD hS (lv_sub hl [1, 2, 3, 4, 5, 6, 7, 8, 0] rfl)
      have B_122 : ∀ (cs1 : CS) (u0 : Nat) (u1 : Nat) (u2 : Int32) (u3 : Nat) (u4 : Int32) (u5 : Int32) (u6 : Int32) (u7 : Int32) (u8 : Int32) (u9 : Int32) (y0 : Int32) (y1 : Int32), c_X11_tellChanges_b122 F (c_X11_tellChanges_L15 F lf_15) cs1 u0 u1 u2 u3 u4 u5 u6 u7 u8 u9 y0 y1 = some cs9 → ∀ (H : Heap) (locs : List Loc) (ls : Array Slot), va_P (dC, dI) vwCl (cW cB cI cJ cZ cS cO b cs1) H → va_D A (cW cB cI cJ cZ cS cO b cs1) → va_S A s.heap H locs → lv_has ls 12 [(0, .ref (b + u0)), (1, .ref (b + u1)), (2, .int u2), (3, .ref (b + u3)), (4, .int u4), (5, .int u5), (6, .int u6), (7, .int u7), (8, .int u8), (9, .int u9)] → W p l e (headSpec (wsOf yX11_tellChanges cX11_tellChanges 12 none) ({ frames := 3, cells := 0, slots := 0, locals := 60 * (3) } : Room)).room s m ([.ref (b + x0), .ref (b + x1), .int x2, .ref (b + x3), .int x4, .int x5] : List Value).toArray below meth c H locs 0 0 (MQ below (va_Qv (fun (_ : Unit) => True) (fun _ t_ => va_P (dC, dI) vwCl (cW cB cI cJ cZ cS cO b cs9) t_.heap ∧ va_D A (cW cB cI cJ cZ cS cO b cs9)) A) ([.ref (b + x0), .ref (b + x1), .int x2, .ref (b + x3), .int x4, .int x5] : List Value).toArray s 0 0 A) (F0 m 122 ls [.int y0, .int y1]) := by
        intro cs1 u0 u1 u2 u3 u4 u5 u6 u7 u8 u9 y0 y1 h H locs ls hP hD hS hl
        unfold c_X11_tellChanges_b122 at h
        refine lv_isub hx hb dX11_tellChanges_122 ?_
        refine lv_istore (lv' := [(11, .int (y1 - y0)), (0, .ref (b + u0)), (1, .ref (b + u1)), (2, .int u2), (3, .ref (b + u3)), (4, .int u4), (5, .int u5), (6, .int u6), (7, .int u7), (8, .int u8), (9, .int u9)]) hx hb dX11_tellChanges_123 hl (by decide) rfl (fun ls hl => ?_)
        refine lv_iload hx hb dX11_tellChanges_125 (lv_at hl 0 rfl) ?_
        refine lv_if_le (tgt := 189) hx hb dX11_tellChanges_127 (by decide) (fun c_1 => ?_) (fun c_1 => ?_)
        · skip
          replace h := (if_pos c_1).symm.trans h
          exact B_189 cs1 u0 u1 u2 u3 u4 u5 u6 u7 u8 u9 h _ _ _ hP hD hS (lv_sub hl [1, 2, 3, 4, 5, 6, 7, 8, 9, 10] rfl)
        · skip
          replace h := (if_neg c_1).symm.trans h
          refine lv_aload_n hx hb dX11_tellChanges_130 rfl (lv_at hl 1 rfl) ?_
          replace h := ob h; obtain ⟨v_2, hv_2, h⟩ := h
          refine fg_X11_98 hx hb hts hown hK hP hv_2 dX11_tellChanges_131 ?_
          refine lv_aload_n hx hb dX11_tellChanges_134 rfl (lv_at hl 1 rfl) ?_
          replace h := ob h; obtain ⟨v_3, hv_3, h⟩ := h
          refine fg_X11_43 hx hb hts hown hK hP hv_3 dX11_tellChanges_135 ?_
          replace h := ob h; obtain ⟨v_4, hv_4, h⟩ := h
          refine alen0 hx hb hK hP rfl hv_4 dX11_tellChanges_138 ?_
          refine lv_icmp_ge (tgt := 189) hx hb dX11_tellChanges_139 (by decide) (fun c_5 => ?_) (fun c_5 => ?_)
          · skip
            replace h := (if_pos c_5).symm.trans h
            exact B_189 cs1 u0 u1 u2 u3 u4 u5 u6 u7 u8 u9 h _ _ _ hP hD hS (lv_sub hl [1, 2, 3, 4, 5, 6, 7, 8, 9, 10] rfl)
          · skip
            replace h := (if_neg c_5).symm.trans h
            refine lv_aload_n hx hb dX11_tellChanges_142 rfl (lv_at hl 1 rfl) ?_
            replace h := ob h; obtain ⟨v_6, hv_6, h⟩ := h
            refine fg_X11_98 hx hb hts hown hK hP hv_6 dX11_tellChanges_143 ?_
            refine lv_aload_n hx hb dX11_tellChanges_146 rfl (lv_at hl 1 rfl) ?_
            replace h := ob h; obtain ⟨v_7, hv_7, h⟩ := h
            refine fg_X11_47 hx hb hts hown hK hP hv_7 dX11_tellChanges_147 ?_
            replace h := ob h; obtain ⟨v_8, hv_8, h⟩ := h
            refine alen0 hx hb hK hP rfl hv_8 dX11_tellChanges_150 ?_
            refine lv_icmp_ge (tgt := 189) hx hb dX11_tellChanges_151 (by decide) (fun c_9 => ?_) (fun c_9 => ?_)
            · skip
              replace h := (if_pos c_9).symm.trans h
              exact B_189 cs1 u0 u1 u2 u3 u4 u5 u6 u7 u8 u9 h _ _ _ hP hD hS (lv_sub hl [1, 2, 3, 4, 5, 6, 7, 8, 9, 10] rfl)
            · skip
              replace h := (if_neg c_9).symm.trans h
              refine lv_aload_n hx hb dX11_tellChanges_154 rfl (lv_at hl 1 rfl) ?_
              replace h := ob h; obtain ⟨v_10, hv_10, h⟩ := h
              refine fg_X11_43 hx hb hts hown hK hP hv_10 dX11_tellChanges_155 ?_
              refine lv_aload_n hx hb dX11_tellChanges_158 rfl (lv_at hl 1 rfl) ?_
              replace h := ob h; obtain ⟨v_11, hv_11, h⟩ := h
              refine fg_X11_98 hx hb hts hown hK hP hv_11 dX11_tellChanges_159 ?_
              refine lv_iload hx hb dX11_tellChanges_162 (lv_at hl 10 rfl) ?_
              replace h := ob h; obtain ⟨cs_12, hv_12, h⟩ := h
              refine ast0 hx hb hK hP hD hS rfl hv_12 dX11_tellChanges_164 (fun H locs hP hD hS => ?_)
              refine lv_aload_n hx hb dX11_tellChanges_165 rfl (lv_at hl 1 rfl) ?_
              replace h := ob h; obtain ⟨v_13, hv_13, h⟩ := h
              refine fg_X11_47 hx hb hts hown hK hP hv_13 dX11_tellChanges_166 ?_
              refine lv_aload_n hx hb dX11_tellChanges_169 rfl (lv_at hl 1 rfl) ?_
              replace h := ob h; obtain ⟨v_14, hv_14, h⟩ := h
              refine fg_X11_98 hx hb hts hown hK hP hv_14 dX11_tellChanges_170 ?_
              refine lv_iload hx hb dX11_tellChanges_173 (lv_at hl 6 rfl) ?_
              refine lv_iload hx hb dX11_tellChanges_175 (lv_at hl 0 rfl) ?_
              refine lv_imul hx hb dX11_tellChanges_177 ?_
              replace h := ob h; obtain ⟨cs_15, hv_15, h⟩ := h
              refine ast0 hx hb hK hP hD hS rfl hv_15 dX11_tellChanges_178 (fun H locs hP hD hS => ?_)
              refine lv_aload_n hx hb dX11_tellChanges_179 rfl (lv_at hl 1 rfl) ?_
              refine lv_dup hx hb dX11_tellChanges_180 rfl ?_
              replace h := ob h; obtain ⟨v_16, hv_16, h⟩ := h
              refine fg_X11_98 hx hb hts hown hK hP hv_16 dX11_tellChanges_181 ?_
              refine lv_iconst (v := 1) hx hb dX11_tellChanges_184 (by decide) ?_
              refine lv_iadd hx hb dX11_tellChanges_185 ?_
              replace h := ob h; obtain ⟨cs_17, hv_17, h⟩ := h
              refine fp_X11_98 hx hb hts hown hK hP hD hS hv_17 dX11_tellChanges_186 (fun H locs hP hD hS => ?_)
              exact B_189 cs_17 u0 u1 u2 u3 u4 u5 u6 u7 u8 u9 h _ _ _ hP hD hS (lv_sub hl [1, 2, 3, 4, 5, 6, 7, 8, 9, 10] rfl)
      have B_99 : ∀ (cs1 : CS) (u0 : Nat) (u1 : Nat) (u2 : Int32) (u3 : Nat) (u4 : Int32) (u5 : Int32) (u6 : Int32) (u7 : Int32) (u8 : Int32) (u9 : Int32) (y0 : Int32), c_X11_tellChanges_b99 F (c_X11_tellChanges_L15 F lf_15) cs1 u0 u1 u2 u3 u4 u5 u6 u7 u8 u9 y0 = some cs9 → ∀ (H : Heap) (locs : List Loc) (ls : Array Slot), va_P (dC, dI) vwCl (cW cB cI cJ cZ cS cO b cs1) H → va_D A (cW cB cI cJ cZ cS cO b cs1) → va_S A s.heap H locs → lv_has ls 12 [(0, .ref (b + u0)), (1, .ref (b + u1)), (2, .int u2), (3, .ref (b + u3)), (4, .int u4), (5, .int u5), (6, .int u6), (7, .int u7), (8, .int u8), (9, .int u9)] → W p l e (headSpec (wsOf yX11_tellChanges cX11_tellChanges 12 none) ({ frames := 3, cells := 0, slots := 0, locals := 60 * (3) } : Room)).room s m ([.ref (b + x0), .ref (b + x1), .int x2, .ref (b + x3), .int x4, .int x5] : List Value).toArray below meth c H locs 0 0 (MQ below (va_Qv (fun (_ : Unit) => True) (fun _ t_ => va_P (dC, dI) vwCl (cW cB cI cJ cZ cS cO b cs9) t_.heap ∧ va_D A (cW cB cI cJ cZ cS cO b cs9)) A) ([.ref (b + x0), .ref (b + x1), .int x2, .ref (b + x3), .int x4, .int x5] : List Value).toArray s 0 0 A) (F0 m 99 ls [.int y0]) := by
        intro cs1 u0 u1 u2 u3 u4 u5 u6 u7 u8 u9 y0 h H locs ls hP hD hS hl
        unfold c_X11_tellChanges_b99 at h
        refine lv_istore (lv' := [(10, .int y0), (0, .ref (b + u0)), (1, .ref (b + u1)), (2, .int u2), (3, .ref (b + u3)), (4, .int u4), (5, .int u5), (6, .int u6), (7, .int u7), (8, .int u8), (9, .int u9)]) hx hb dX11_tellChanges_99 hl (by decide) rfl (fun ls hl => ?_)
        refine lv_iload hx hb dX11_tellChanges_101 (lv_at hl 9 rfl) ?_
        refine lv_iload hx hb dX11_tellChanges_103 (lv_at hl 0 rfl) ?_
        refine lv_if_eq (tgt := 121) hx hb dX11_tellChanges_105 (by decide) (fun c_18 => ?_) (fun c_18 => ?_)
        · skip
          replace h := (if_pos c_18).symm.trans h
          refine lv_iconst (v := 0) hx hb dX11_tellChanges_121 (by decide) ?_
          exact B_122 cs1 u0 u1 u2 u3 u4 u5 u6 u7 u8 u9 0 u8 h _ _ _ hP hD hS (lv_sub hl [1, 2, 3, 4, 5, 6, 7, 8, 9, 10] rfl)
        · skip
          replace h := (if_neg c_18).symm.trans h
          refine lv_aload_n hx hb dX11_tellChanges_108 rfl (lv_at hl 4 rfl) ?_
          refine lv_iload hx hb dX11_tellChanges_109 (lv_at hl 8 rfl) ?_
          refine lv_iload hx hb dX11_tellChanges_111 (lv_at hl 5 rfl) ?_
          refine lv_iload hx hb dX11_tellChanges_113 (lv_at hl 7 rfl) ?_
          replace h := ob h; obtain ⟨w_20, hw_20, h⟩ := h
          replace h := ob h; obtain ⟨v_19, hv_19, h⟩ := h
          refine ccI (As := [.int u7, .int u4, .int u6]) hx hb hml hts hown hK hP hD hS hA hZ (X := 9) (by decide) rfl (ckE_some hw_20) (sc_X8_repeats l dC dI cB cI cJ cZ cS cO b K V fz F cs1 u3 u7 u4 u6 v_19 hv_19) (cw_X11_X8_repeats hts (fr := 2) (Nat.le_of_ble_eq_true rfl) (Nat.le_of_ble_eq_true rfl)) rfl hl.1 (Nat.le_of_ble_eq_true rfl) ⟨Nat.zero_le _, Nat.zero_le _⟩ dX11_tellChanges_115 (fun H locs hP hD hS => ?_)
          refine lv_goto (tgt := 122) hx hb dX11_tellChanges_118 (by decide) ?_
          exact B_122 cs1 u0 u1 u2 u3 u4 u5 u6 u7 u8 u9 v_19 u8 h _ _ _ hP hD hS (lv_sub hl [1, 2, 3, 4, 5, 6, 7, 8, 9, 10] rfl)
      have B_98 : ∀ (cs1 : CS) (u0 : Nat) (u1 : Nat) (u2 : Int32) (u3 : Nat) (u4 : Int32) (u5 : Int32) (u6 : Int32) (u7 : Int32) (u8 : Int32) (u9 : Int32), c_X11_tellChanges_b98 F (c_X11_tellChanges_L15 F lf_15) cs1 u0 u1 u2 u3 u4 u5 u6 u7 u8 u9 = some cs9 → ∀ (H : Heap) (locs : List Loc) (ls : Array Slot), va_P (dC, dI) vwCl (cW cB cI cJ cZ cS cO b cs1) H → va_D A (cW cB cI cJ cZ cS cO b cs1) → va_S A s.heap H locs → lv_has ls 12 [(0, .ref (b + u0)), (1, .ref (b + u1)), (2, .int u2), (3, .ref (b + u3)), (4, .int u4), (5, .int u5), (6, .int u6), (7, .int u7), (8, .int u8), (9, .int u9)] → W p l e (headSpec (wsOf yX11_tellChanges cX11_tellChanges 12 none) ({ frames := 3, cells := 0, slots := 0, locals := 60 * (3) } : Room)).room s m ([.ref (b + x0), .ref (b + x1), .int x2, .ref (b + x3), .int x4, .int x5] : List Value).toArray below meth c H locs 0 0 (MQ below (va_Qv (fun (_ : Unit) => True) (fun _ t_ => va_P (dC, dI) vwCl (cW cB cI cJ cZ cS cO b cs9) t_.heap ∧ va_D A (cW cB cI cJ cZ cS cO b cs9)) A) ([.ref (b + x0), .ref (b + x1), .int x2, .ref (b + x3), .int x4, .int x5] : List Value).toArray s 0 0 A) (F0 m 98 ls []) := by
        intro cs1 u0 u1 u2 u3 u4 u5 u6 u7 u8 u9 h H locs ls hP hD hS hl
        unfold c_X11_tellChanges_b98 at h
        refine lv_iconst (v := 0) hx hb dX11_tellChanges_98 (by decide) ?_
        exact B_99 cs1 u0 u1 u2 u3 u4 u5 u6 u7 u8 u9 0 h _ _ _ hP hD hS (lv_sub hl [0, 1, 2, 3, 4, 5, 6, 7, 8, 9] rfl)
      have B_66 : ∀ (cs1 : CS) (u0 : Nat) (u1 : Nat) (u2 : Int32) (u3 : Nat) (u4 : Int32) (u5 : Int32) (u6 : Int32) (u7 : Int32) (u8 : Int32) (u9 : Int32), c_X11_tellChanges_b66 F (c_X11_tellChanges_L15 F lf_15) cs1 u0 u1 u2 u3 u4 u5 u6 u7 u8 u9 = some cs9 → ∀ (H : Heap) (locs : List Loc) (ls : Array Slot), va_P (dC, dI) vwCl (cW cB cI cJ cZ cS cO b cs1) H → va_D A (cW cB cI cJ cZ cS cO b cs1) → va_S A s.heap H locs → lv_has ls 12 [(0, .ref (b + u0)), (1, .ref (b + u1)), (2, .int u2), (3, .ref (b + u3)), (4, .int u4), (5, .int u5), (6, .int u6), (7, .int u7), (8, .int u8), (9, .int u9)] → W p l e (headSpec (wsOf yX11_tellChanges cX11_tellChanges 12 none) ({ frames := 3, cells := 0, slots := 0, locals := 60 * (3) } : Room)).room s m ([.ref (b + x0), .ref (b + x1), .int x2, .ref (b + x3), .int x4, .int x5] : List Value).toArray below meth c H locs 0 0 (MQ below (va_Qv (fun (_ : Unit) => True) (fun _ t_ => va_P (dC, dI) vwCl (cW cB cI cJ cZ cS cO b cs9) t_.heap ∧ va_D A (cW cB cI cJ cZ cS cO b cs9)) A) ([.ref (b + x0), .ref (b + x1), .int x2, .ref (b + x3), .int x4, .int x5] : List Value).toArray s 0 0 A) (F0 m 66 ls []) := by
        intro cs1 u0 u1 u2 u3 u4 u5 u6 u7 u8 u9 h H locs ls hP hD hS hl
        unfold c_X11_tellChanges_b66 at h
        refine lv_iload hx hb dX11_tellChanges_66 (lv_at hl 7 rfl) ?_
        refine lv_iload hx hb dX11_tellChanges_68 (lv_at hl 4 rfl) ?_
        refine lv_icmp_ge (tgt := 98) hx hb dX11_tellChanges_70 (by decide) (fun c_21 => ?_) (fun c_21 => ?_)
        · skip
          replace h := (if_pos c_21).symm.trans h
          exact B_98 cs1 u0 u1 u2 u3 u4 u5 u6 u7 u8 u9 h _ _ _ hP hD hS (lv_sub hl [0, 1, 2, 3, 4, 5, 6, 7, 8, 9] rfl)
        · skip
          replace h := (if_neg c_21).symm.trans h
          refine lv_aload_n hx hb dX11_tellChanges_73 rfl (lv_at hl 3 rfl) ?_
          refine lv_iload hx hb dX11_tellChanges_74 (lv_at hl 7 rfl) ?_
          refine lv_iload hx hb dX11_tellChanges_76 (lv_at hl 6 rfl) ?_
          refine lv_imul hx hb dX11_tellChanges_78 ?_
          refine lv_aload_n hx hb dX11_tellChanges_79 rfl (lv_at hl 1 rfl) ?_
          refine lv_iload hx hb dX11_tellChanges_80 (lv_at hl 9 rfl) ?_
          refine lv_iload hx hb dX11_tellChanges_82 (lv_at hl 6 rfl) ?_
          refine lv_imul hx hb dX11_tellChanges_84 ?_
          refine lv_iload hx hb dX11_tellChanges_85 (lv_at hl 6 rfl) ?_
          refine lv_iconst (v := 0) hx hb dX11_tellChanges_87 (by decide) ?_
          replace h := ob h; obtain ⟨w_23, hw_23, h⟩ := h
          replace h := ob h; obtain ⟨v_22, hv_22, h⟩ := h
          refine ccI (As := [.int (u7 * u6), .ref (b + u1), .int (u9 * u6), .int u6, .int 0]) hx hb hml hts hown hK hP hD hS hA hZ (X := 9) (by decide) rfl (ckE_some hw_23) (sc_X8_compareRows l dC dI cB cI cJ cZ cS cO b K V fz F cs1 u3 (u7 * u6) u1 (u9 * u6) u6 0 v_22 hv_22) (cw_X11_X8_compareRows hts (fr := 1) (Nat.le_of_ble_eq_true rfl) (Nat.le_of_ble_eq_true rfl)) rfl hl.1 (Nat.le_of_ble_eq_true rfl) ⟨Nat.zero_le _, Nat.zero_le _⟩ dX11_tellChanges_88 (fun H locs hP hD hS => ?_)
          refine lv_if_ne (tgt := 98) hx hb dX11_tellChanges_91 (by decide) (fun c_24 => ?_) (fun c_24 => ?_)
          · skip
            replace h := (if_neg c_24).symm.trans h
            exact B_98 cs1 u0 u1 u2 u3 u4 u5 u6 u7 u8 u9 h _ _ _ hP hD hS (lv_sub hl [0, 1, 2, 3, 4, 5, 6, 7, 8, 9] rfl)
          · skip
            replace h := (if_pos c_24).symm.trans h
            refine lv_iconst (v := 1) hx hb dX11_tellChanges_94 (by decide) ?_
            refine lv_goto (tgt := 99) hx hb dX11_tellChanges_95 (by decide) ?_
            exact B_99 cs1 u0 u1 u2 u3 u4 u5 u6 u7 u8 u9 1 h _ _ _ hP hD hS (lv_sub hl [0, 1, 2, 3, 4, 5, 6, 7, 8, 9] rfl)
      have L_32 : ∀ (lf_32 : Nat), ∀ (cs1 : CS) (u0 : Nat) (u1 : Nat) (u2 : Int32) (u3 : Nat) (u4 : Int32) (u5 : Int32) (u6 : Int32) (u7 : Int32) (u8 : Int32) (u9 : Int32), c_X11_tellChanges_L32 F (c_X11_tellChanges_L15 F lf_15) lf_32 cs1 u0 u1 u2 u3 u4 u5 u6 u7 u8 u9 = some cs9 → ∀ (H : Heap) (locs : List Loc) (ls : Array Slot), va_P (dC, dI) vwCl (cW cB cI cJ cZ cS cO b cs1) H → va_D A (cW cB cI cJ cZ cS cO b cs1) → va_S A s.heap H locs → lv_has ls 12 [(0, .ref (b + u0)), (1, .ref (b + u1)), (2, .int u2), (3, .ref (b + u3)), (4, .int u4), (5, .int u5), (6, .int u6), (7, .int u7), (8, .int u8), (9, .int u9)] → W p l e (headSpec (wsOf yX11_tellChanges cX11_tellChanges 12 none) ({ frames := 3, cells := 0, slots := 0, locals := 60 * (3) } : Room)).room s m ([.ref (b + x0), .ref (b + x1), .int x2, .ref (b + x3), .int x4, .int x5] : List Value).toArray below meth c H locs 0 0 (MQ below (va_Qv (fun (_ : Unit) => True) (fun _ t_ => va_P (dC, dI) vwCl (cW cB cI cJ cZ cS cO b cs9) t_.heap ∧ va_D A (cW cB cI cJ cZ cS cO b cs9)) A) ([.ref (b + x0), .ref (b + x1), .int x2, .ref (b + x3), .int x4, .int x5] : List Value).toArray s 0 0 A) (F0 m 32 ls []) := by
        intro lf_32
        induction lf_32 with
        | zero => intro cs1 u0 u1 u2 u3 u4 u5 u6 u7 u8 u9 h; cases (show (none : Option CS) = _ from h)
        | succ lf_32 ih_32 =>
          intro cs1 u0 u1 u2 u3 u4 u5 u6 u7 u8 u9 h H locs ls hP hD hS hl
          rw [c_X11_tellChanges_L32] at h
          refine lv_iload hx hb dX11_tellChanges_32 (lv_at hl 7 rfl) ?_
          refine lv_iload hx hb dX11_tellChanges_34 (lv_at hl 4 rfl) ?_
          refine lv_icmp_ge (tgt := 66) hx hb dX11_tellChanges_36 (by decide) (fun c_25 => ?_) (fun c_25 => ?_)
          · skip
            replace h := (if_pos c_25).symm.trans h
            exact B_66 cs1 u0 u1 u2 u3 u4 u5 u6 u7 u8 u9 h _ _ _ hP hD hS (lv_sub hl [0, 1, 2, 3, 4, 5, 6, 7, 8, 9] rfl)
          · skip
            replace h := (if_neg c_25).symm.trans h
            refine lv_aload_n hx hb dX11_tellChanges_39 rfl (lv_at hl 3 rfl) ?_
            refine lv_iload hx hb dX11_tellChanges_40 (lv_at hl 7 rfl) ?_
            refine lv_iload hx hb dX11_tellChanges_42 (lv_at hl 6 rfl) ?_
            refine lv_imul hx hb dX11_tellChanges_44 ?_
            refine lv_aload_n hx hb dX11_tellChanges_45 rfl (lv_at hl 1 rfl) ?_
            refine lv_iload hx hb dX11_tellChanges_46 (lv_at hl 9 rfl) ?_
            refine lv_iload hx hb dX11_tellChanges_48 (lv_at hl 6 rfl) ?_
            refine lv_imul hx hb dX11_tellChanges_50 ?_
            refine lv_iload hx hb dX11_tellChanges_51 (lv_at hl 6 rfl) ?_
            refine lv_iconst (v := 0) hx hb dX11_tellChanges_53 (by decide) ?_
            replace h := ob h; obtain ⟨w_27, hw_27, h⟩ := h
            replace h := ob h; obtain ⟨v_26, hv_26, h⟩ := h
            refine ccI (As := [.int (u7 * u6), .ref (b + u1), .int (u9 * u6), .int u6, .int 0]) hx hb hml hts hown hK hP hD hS hA hZ (X := 9) (by decide) rfl (ckE_some hw_27) (sc_X8_compareRows l dC dI cB cI cJ cZ cS cO b K V fz F cs1 u3 (u7 * u6) u1 (u9 * u6) u6 0 v_26 hv_26) (cw_X11_X8_compareRows hts (fr := 1) (Nat.le_of_ble_eq_true rfl) (Nat.le_of_ble_eq_true rfl)) rfl hl.1 (Nat.le_of_ble_eq_true rfl) ⟨Nat.zero_le _, Nat.zero_le _⟩ dX11_tellChanges_54 (fun H locs hP hD hS => ?_)
            refine lv_if_ge (tgt := 66) hx hb dX11_tellChanges_57 (by decide) (fun c_28 => ?_) (fun c_28 => ?_)
            · skip
              replace h := (if_pos c_28).symm.trans h
              exact B_66 cs1 u0 u1 u2 u3 u4 u5 u6 u7 u8 u9 h _ _ _ hP hD hS (lv_sub hl [0, 1, 2, 3, 4, 5, 6, 7, 8, 9] rfl)
            · skip
              replace h := (if_neg c_28).symm.trans h
              refine lv_iinc (v := u7 + 1) (lv' := [(7, .int (u7 + 1)), (0, .ref (b + u0)), (1, .ref (b + u1)), (2, .int u2), (3, .ref (b + u3)), (4, .int u4), (5, .int u5), (6, .int u6), (8, .int u8), (9, .int u9)]) hx hb dX11_tellChanges_60 hl (k := 7) rfl rfl (by decide) rfl (fun ls hl => ?_)
              refine lv_goto (tgt := 32) hx hb dX11_tellChanges_63 (by decide) ?_
              exact ih_32 cs1 u0 u1 u2 u3 u4 u5 u6 (u7 + 1) u8 u9 h _ _ _ hP hD hS (lv_sub hl [1, 2, 3, 4, 5, 6, 7, 0, 8, 9] rfl)
      intro cs1 u0 u1 u2 u3 u4 u5 u6 u7 u9 h H locs ls hP hD hS hl
      rw [c_X11_tellChanges_L15] at h
      refine lv_iload hx hb dX11_tellChanges_15 (lv_at hl 8 rfl) ?_
      refine lv_iload_n hx hb dX11_tellChanges_17 rfl (lv_at hl 2 rfl) ?_
      refine lv_icmp_ge (tgt := 203) hx hb dX11_tellChanges_18 (by decide) (fun c_29 => ?_) (fun c_29 => ?_)
      · skip
        replace h := (if_pos c_29).symm.trans h
        have e1 := Option.some.inj h
        rw [e1] at hP hD
        exact W.vret hx hb hr (fun t_ ht hW => ⟨⟨(), rfl, trivial, by rw [ht]; exact hP, hD⟩, hS.F ht⟩) hS.2.2 dX11_tellChanges_203
      · skip
        replace h := (if_neg c_29).symm.trans h
        refine lv_aload_n hx hb dX11_tellChanges_21 rfl (lv_at hl 1 rfl) ?_
        refine lv_iload hx hb dX11_tellChanges_22 (lv_at hl 8 rfl) ?_
        refine lv_iload_n hx hb dX11_tellChanges_24 rfl (lv_at hl 2 rfl) ?_
        refine lv_iload hx hb dX11_tellChanges_25 (lv_at hl 6 rfl) ?_
        replace h := ob h; obtain ⟨w_31, hw_31, h⟩ := h
        replace h := ob h; obtain ⟨v_30, hv_30, h⟩ := h
        refine ccI (As := [.int u9, .int u2, .int u6]) hx hb hml hts hown hK hP hD hS hA hZ (X := 9) (by decide) rfl (ckE_some hw_31) (sc_X8_repeats l dC dI cB cI cJ cZ cS cO b K V fz F cs1 u1 u9 u2 u6 v_30 hv_30) (cw_X11_X8_repeats hts (fr := 2) (Nat.le_of_ble_eq_true rfl) (Nat.le_of_ble_eq_true rfl)) rfl hl.1 (Nat.le_of_ble_eq_true rfl) ⟨Nat.zero_le _, Nat.zero_le _⟩ dX11_tellChanges_27 (fun H locs hP hD hS => ?_)
        refine lv_istore (lv' := [(8, .int v_30), (0, .ref (b + u0)), (1, .ref (b + u1)), (2, .int u2), (3, .ref (b + u3)), (4, .int u4), (5, .int u5), (6, .int u6), (7, .int u7), (9, .int u9)]) hx hb dX11_tellChanges_30 hl (by decide) rfl (fun ls hl => ?_)
        exact L_32 F cs1 u0 u1 u2 u3 u4 u5 u6 u7 v_30 u9 h _ _ _ hP hD hS (lv_sub hl [1, 2, 3, 4, 5, 6, 7, 8, 0, 9] rfl)
  have h := hf
  unfold c_X11_tellChanges at h
  refine lv_aload_n hx hb dX11_tellChanges_0 rfl (lv_at hl 0 rfl) ?_
  replace h := ob h; obtain ⟨w_33, hw_33, h⟩ := h
  replace h := ob h; obtain ⟨v_32, hv_32, h⟩ := h
  refine ccI (As := []) hx hb hml hts hown hK hP hD hS hA hZ (X := 12) (by decide) rfl (ckE_some hw_33) (sc_X11_width l dC dI cB cI cJ cZ cS cO b K V fz F cs x0 v_32 hv_32) (cw_X11_X11_width hts (fr := 0) (Nat.le_of_ble_eq_true rfl) (Nat.le_of_ble_eq_true rfl)) rfl hl.1 (Nat.le_of_ble_eq_true rfl) ⟨Nat.zero_le _, Nat.zero_le _⟩ dX11_tellChanges_1 (fun H locs hP hD hS => ?_)
  refine lv_istore (lv' := [(6, .int v_32), (0, .ref (b + x0)), (1, .ref (b + x1)), (2, .int x2), (3, .ref (b + x3)), (4, .int x4), (5, .int x5)]) hx hb dX11_tellChanges_4 hl (by decide) rfl (fun ls hl => ?_)
  refine lv_iconst (v := 0) hx hb dX11_tellChanges_6 (by decide) ?_
  refine lv_istore (lv' := [(7, .int 0), (6, .int v_32), (0, .ref (b + x0)), (1, .ref (b + x1)), (2, .int x2), (3, .ref (b + x3)), (4, .int x4), (5, .int x5)]) hx hb dX11_tellChanges_7 hl (by decide) rfl (fun ls hl => ?_)
  refine lv_iconst (v := 0) hx hb dX11_tellChanges_9 (by decide) ?_
  refine lv_istore (lv' := [(8, .int 0), (7, .int 0), (6, .int v_32), (0, .ref (b + x0)), (1, .ref (b + x1)), (2, .int x2), (3, .ref (b + x3)), (4, .int x4), (5, .int x5)]) hx hb dX11_tellChanges_10 hl (by decide) rfl (fun ls hl => ?_)
  refine lv_iconst (v := 0) hx hb dX11_tellChanges_12 (by decide) ?_
  refine lv_istore (lv' := [(9, .int 0), (8, .int 0), (7, .int 0), (6, .int v_32), (0, .ref (b + x0)), (1, .ref (b + x1)), (2, .int x2), (3, .ref (b + x3)), (4, .int x4), (5, .int x5)]) hx hb dX11_tellChanges_13 hl (by decide) rfl (fun ls hl => ?_)
  exact L_15 F cs x0 x1 x2 x3 x4 x5 v_32 0 0 h _ _ _ hP hD hS (lv_sub hl [4, 5, 6, 7, 8, 9, 3, 2, 0] rfl)
