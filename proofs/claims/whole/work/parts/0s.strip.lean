/-! the class, mirrored: what makes cells -/
theorem dX8_put_0 : decode cX8_put 0 = .ok (.aload_n 0, 1) := by decide +kernel
theorem dX8_put_1 : decode cX8_put 1 = .ok (.iload_n 1, 1) := by decide +kernel
theorem dX8_put_2 : decode cX8_put 2 = .ok (.iconst 1, 1) := by decide +kernel
theorem dX8_put_3 : decode cX8_put 3 = .ok (.iadd, 1) := by decide +kernel
theorem dX8_put_4 : decode cX8_put 4 = .ok (.invokevirtual 39, 3) := by decide +kernel
theorem dX8_put_7 : decode cX8_put 7 = .ok (.aload_n 0, 1) := by decide +kernel
theorem dX8_put_8 : decode cX8_put 8 = .ok (.iload_n 1, 1) := by decide +kernel
theorem dX8_put_9 : decode cX8_put 9 = .ok (.lload_n 2, 1) := by decide +kernel
theorem dX8_put_10 : decode cX8_put 10 = .ok (.iload 4, 2) := by decide +kernel
theorem dX8_put_12 : decode cX8_put 12 = .ok (.invokevirtual 43, 3) := by decide +kernel
theorem dX8_put_15 : decode cX8_put 15 = .ok (.return_, 1) := by decide +kernel
def c_X8_put_b7 (F : Nat) (cs1 : CS) (u0 : Nat) (u1 : Int32) (u2 : Int64) (u4 : Int32) : Option CS := Option.bind (ckE cs1 9 u0) fun _ => Option.bind (c_X8_set F cs1 u0 u1 u2 u4) fun cs_1 => some cs_1
def c_X8_put (F : Nat) (cs : CS) (x0 : Nat) (x1 : Int32) (x2 : Int64) (x4 : Int32) : Option CS := Option.bind (ckE cs 9 x0) fun _ => Option.bind (c_X8_reserve F cs x0 (x1 + 1)) fun cs_3 => c_X8_put_b7 F cs_3 x0 x1 x2 x4
theorem cw_X4_X8_put {R : Room} {s : State} {args : Array Value} {y0 : MethodName} {c0 : ByteArray} {n0 : Nat} {r0 : Option FieldType} (hts : ∀ w ∈ wsOf y0 c0 n0 r0, w.before args s = true) {fr mc ms : Nat} (h1 : fr + 1 ≤ R.frames) (h2 : 8 + (5 + 11) + 60 * fr ≤ R.locals) : CallW R s args RX4 RX8 128 yX8_put cX8_put 5 none (wsOf yX8_put cX8_put 5 none) ({ frames := fr, cells := mc, slots := ms, locals := 60 * fr } : Room) mc ms 3 := cwV 3 hts (gd_all (in_V kw_1456 kw_1397 kw_1398 kw_188 kc_X8_put)) rfl rfl rfl (by decide +kernel) ⟨h1, h2⟩
theorem cw_X7_X8_put {R : Room} {s : State} {args : Array Value} {y0 : MethodName} {c0 : ByteArray} {n0 : Nat} {r0 : Option FieldType} (hts : ∀ w ∈ wsOf y0 c0 n0 r0, w.before args s = true) {fr mc ms : Nat} (h1 : fr + 1 ≤ R.frames) (h2 : 8 + (5 + 11) + 60 * fr ≤ R.locals) : CallW R s args RX7 RX8 72 yX8_put cX8_put 5 none (wsOf yX8_put cX8_put 5 none) ({ frames := fr, cells := mc, slots := ms, locals := 60 * fr } : Room) mc ms 3 := cwV 3 hts (gd_all (in_V kw_1396 kw_1397 kw_1398 kw_188 kc_X8_put)) rfl rfl rfl (by decide +kernel) ⟨h1, h2⟩
theorem mo_c_X8_put_b7 (F : Nat) (cs1 : CS) (u0 : Nat) (u1 : Int32) (u2 : Int64) (u4 : Int32) (cs9 : CS) (h : c_X8_put_b7 F cs1 u0 u1 u2 u4 = some cs9) : kK cs1 ≤ kK cs9 ∧ kM cs1 ≤ kM cs9 := by
  unfold c_X8_put_b7 at h
  replace h := ob h; obtain ⟨w_4, hw_4, h⟩ := h
  replace h := ob h; obtain ⟨cs_3, hv_3, h⟩ := h
  obtain ⟨qk_3, qm_3⟩ := k_of (mo_c_X8_set F cs1 u0 u1 u2 u4 cs_3 hv_3)
  have h9 := Option.some.inj h
  have k9 := congrArg kK h9; have m9 := congrArg kM h9; exact ⟨by omega, by omega⟩
theorem mo_c_X8_put (F : Nat) (cs : CS) (x0 : Nat) (x1 : Int32) (x2 : Int64) (x4 : Int32) (cs9 : CS) (h : c_X8_put F cs x0 x1 x2 x4 = some cs9) : kK cs ≤ kK cs9 ∧ kM cs ≤ kM cs9 := by
  unfold c_X8_put at h
  replace h := ob h; obtain ⟨w_4, hw_4, h⟩ := h
  replace h := ob h; obtain ⟨cs_3, hv_3, h⟩ := h
  obtain ⟨qk_3, qm_3⟩ := mo_c_X8_reserve F cs x0 (x1 + 1) cs_3 hv_3
  obtain ⟨k9, m9⟩ := mo_c_X8_put_b7 F cs_3 x0 x1 x2 x4 cs9 h
  exact ⟨by omega, by omega⟩
set_option maxHeartbeats 4000000 in
set_option maxRecDepth 100000 in
theorem sa_X8_put (l : Launch) (dC : Nat → ClassId) (dI : Nat → Nat → Nat) (cB cI cJ cZ cS cO : ClassId) (b : Nat) (K V : Nat → Nat) (fz : Value) (F : Nat) (cs : CS) (x0 : Nat) (x1 : Int32) (x2 : Int64) (x4 : Int32) (cs9 : CS) (hf : c_X8_put F cs x0 x1 x2 x4 = some cs9) : oaV l dC dI cB cI cJ cZ cS cO b K V fz yX8_put (wsOf yX8_put cX8_put 5 none) (4) [.ref (b + x0), .int x1, .long x2, .int x4] cs cs9 := by
  obtain ⟨kb9, mb9⟩ := mo_c_X8_put F cs x0 x1 x2 x4 cs9 hf
  refine ⟨⟨kb9, mb9⟩, ?_⟩
  refine Met.ofW (cc := cX8_put) (maxL := 5) (ret := none) (by decide) rfl ?_
  intro p e s m args below meth c s₁ B hml hv
  obtain ⟨rfl, hsz, hP, hK, hD0, hZ⟩ := hv
  have hx := B.exec
  have hb := B.bytes
  have hr := B.returns
  have hts := atoms_spec (ws := (wsOf yX8_put cX8_put 5 none)) B.pre
  have hown : s.vm.findClass RX8 = some m.cls := findClass_of_methodNamed B.named
  have hlocks := B.notSynchronized
  have hD := hD0.self (sz := b + kK cs)
  generalize hAe : va_A (cW cB cI cJ cZ cS cO b cs) (b + kK cs) = A at hD hZ ⊢
  have hA : ∀ q : Nat, s.heap.size ≤ q → A q := fun q h => by rw [← hAe]; exact Or.inr (by omega)
  have hS : va_S A s.heap s.heap [] := va_S.rf
  have hG : va_S A s.heap s.heap [] := va_S.rf
  have hgz : s.heap.size = b + kK cs := hsz
  have hl := lv_entry ([.ref (b + x0), .int x1, .long x2, .int x4]) (n := 5) (Nat.le_of_ble_eq_true rfl)
  rw [lg_entry_eq]
  generalize (lg_sl ([.ref (b + x0), .int x1, .long x2, .int x4]) ++ List.replicate (5 - (lg_sl ([.ref (b + x0), .int x1, .long x2, .int x4])).length) Slot.unset).toArray = ls at hl ⊢
  have hl : lv_has ls 5 [(0, .ref (b + x0)), (1, .int x1), (2, .long x2), (4, .int x4)] := hl
  have B_7 : ∀ (cs1 : CS) (u0 : Nat) (u1 : Int32) (u2 : Int64) (u4 : Int32), c_X8_put_b7 F cs1 u0 u1 u2 u4 = some cs9 → kK cs ≤ kK cs1 → kM cs ≤ kM cs1 → ∀ (Gh H : Heap) (locs : List Loc) (ls : Array Slot), va_P (dC, dI) vwCl (cW cB cI cJ cZ cS cO b cs1) H → va_D A (cW cB cI cJ cZ cS cO b cs1) → va_S A s.heap Gh [] → Gh.size = b + kK cs1 → va_S A Gh H locs → lv_has ls 5 [(0, .ref (b + u0)), (1, .int u1), (2, .long u2), (4, .int u4)] → W p l e (headSpec (wsOf yX8_put cX8_put 5 none) ({ frames := 4, cells := kK cs9 - kK cs, slots := kM cs9 - kM cs, locals := 60 * (4) } : Room)).room s m ([.ref (b + x0), .int x1, .long x2, .int x4] : List Value).toArray below meth c H locs (kK cs1 - kK cs) (kM cs1 - kM cs) (MQ below (va_Qv (fun (_ : Unit) => True) (fun _ t_ => va_P (dC, dI) vwCl (cW cB cI cJ cZ cS cO b cs9) t_.heap ∧ va_D A (cW cB cI cJ cZ cS cO b cs9) ∧ b + kK cs9 ≤ t_.heap.size) A) ([.ref (b + x0), .int x1, .long x2, .int x4] : List Value).toArray s (kK cs9 - kK cs) (kM cs9 - kM cs) A) (F0 m 7 ls []) := by
    intro cs1 u0 u1 u2 u4 h hmk hmm Gh H locs ls hP hD hG hgz hS hl
    obtain ⟨kb9, mb9⟩ := mo_c_X8_put_b7 F cs1 u0 u1 u2 u4 cs9 h
    unfold c_X8_put_b7 at h
    refine lv_aload_n hx hb dX8_put_7 rfl (lv_at hl 0 rfl) ?_
    refine lv_iload_n hx hb dX8_put_8 rfl (lv_at hl 1 rfl) ?_
    refine lv_lload_n hx hb dX8_put_9 rfl (lv_at hl 2 rfl) ?_
    refine lv_iload hx hb dX8_put_10 (lv_at hl 3 rfl) ?_
    replace h := ob h; obtain ⟨w_2, hw_2, h⟩ := h
    replace h := ob h; obtain ⟨cs_1, hv_1, h⟩ := h
    obtain ⟨qk_1, qm_1⟩ := k_of (mo_c_X8_set F cs1 u0 u1 u2 u4 cs_1 hv_1)
    refine cbvV (As := [.int u1, .long u2, .int u4]) hx hb hml hts hown hK hP hD hS hG hA (by omega) (by omega) hZ (X := 9) (by decide) rfl (ckE_some hw_2) (sc_X8_set l dC dI cB cI cJ cZ cS cO b K V fz F cs1 u0 u1 u2 u4 cs_1 hv_1) (cw_X8_X8_set hts (fr := 1) (Nat.le_of_ble_eq_true rfl) (Nat.le_of_ble_eq_true rfl)) rfl hl.1 (Nat.le_of_ble_eq_true rfl) ⟨by show kK cs1 - kK cs ≤ kK cs9 - kK cs; omega, by show kM cs1 - kM cs ≤ kM cs9 - kM cs; omega⟩ dX8_put_12 (fun H locs hP hD hG hgz hS => ?_)
    have e1 := Option.some.inj h
    rw [e1] at hP hD
    have e3 := congrArg kK e1
    have e4 := congrArg kM e1
    refine W_cnt (c2 := kK cs9 - kK cs) (n2 := kM cs9 - kM cs) (by omega) (by omega) ?_
    exact W.vret hx hb hr (fun t_ ht hW => ⟨⟨(), rfl, trivial, by rw [ht]; exact hP, hD, by rw [ht]; have := hS.1; omega⟩, (hG.comp hS).F ht⟩) (hG.comp hS).2.2 dX8_put_15
  have h := hf
  unfold c_X8_put at h
  refine W_cnt (c2 := kK cs - kK cs) (n2 := kM cs - kM cs) (by omega) (by omega) ?_
  refine lv_aload_n hx hb dX8_put_0 rfl (lv_at hl 0 rfl) ?_
  refine lv_iload_n hx hb dX8_put_1 rfl (lv_at hl 1 rfl) ?_
  refine lv_iconst (v := 1) hx hb dX8_put_2 (by decide) ?_
  refine lv_iadd hx hb dX8_put_3 ?_
  replace h := ob h; obtain ⟨w_4, hw_4, h⟩ := h
  replace h := ob h; obtain ⟨cs_3, hv_3, h⟩ := h
  obtain ⟨qk_3, qm_3⟩ := mo_c_X8_reserve F cs x0 (x1 + 1) cs_3 hv_3
  obtain ⟨k9_3, m9_3⟩ := mo_c_X8_put_b7 F cs_3 x0 x1 x2 x4 cs9 h
  refine cavV (As := [.int (x1 + 1)]) hx hb hml hts hown hK hP hD hS hG hA (by omega) (by omega) hZ (X := 9) (by decide) rfl (ckE_some hw_4) (sa_X8_reserve l dC dI cB cI cJ cZ cS cO b K V fz F cs x0 (x1 + 1) cs_3 hv_3) (cw_X8_X8_reserve hts (fr := 3) (Nat.le_of_ble_eq_true rfl) (Nat.le_of_ble_eq_true rfl)) rfl hl.1 (Nat.le_of_ble_eq_true rfl) ⟨by show kK cs - kK cs + (kK cs_3 - kK cs) ≤ kK cs9 - kK cs; omega, by show kM cs - kM cs + (kM cs_3 - kM cs) ≤ kM cs9 - kM cs; omega⟩ dX8_put_4 (fun H locs hP hD hG hgz hS => ?_)
  refine W_cnt (c2 := kK cs_3 - kK cs) (n2 := kM cs_3 - kM cs) (by omega) (by omega) ?_
  exact B_7 cs_3 x0 x1 x2 x4 h (by omega) (by omega) _ _ _ _ hP hD hG (by omega) hS (lv_sub hl [0, 1, 2, 3] rfl)
theorem dX7_copyRow_0 : decode cX7_copyRow 0 = .ok (.aload_n 0, 1) := by decide +kernel
theorem dX7_copyRow_1 : decode cX7_copyRow 1 = .ok (.iload_n 1, 1) := by decide +kernel
theorem dX7_copyRow_2 : decode cX7_copyRow 2 = .ok (.iload_n 2, 1) := by decide +kernel
theorem dX7_copyRow_3 : decode cX7_copyRow 3 = .ok (.invokevirtual 62, 3) := by decide +kernel
theorem dX7_copyRow_6 : decode cX7_copyRow 6 = .ok (.ifCond .ne 4, 3) := by decide +kernel
theorem dX7_copyRow_9 : decode cX7_copyRow 9 = .ok (.return_, 1) := by decide +kernel
theorem dX7_copyRow_10 : decode cX7_copyRow 10 = .ok (.iload_n 1, 1) := by decide +kernel
theorem dX7_copyRow_11 : decode cX7_copyRow 11 = .ok (.bipush 8, 2) := by decide +kernel
theorem dX7_copyRow_13 : decode cX7_copyRow 13 = .ok (.imul, 1) := by decide +kernel
theorem dX7_copyRow_14 : decode cX7_copyRow 14 = .ok (.iload_n 2, 1) := by decide +kernel
theorem dX7_copyRow_15 : decode cX7_copyRow 15 = .ok (.iadd, 1) := by decide +kernel
theorem dX7_copyRow_16 : decode cX7_copyRow 16 = .ok (.iconst 5, 1) := by decide +kernel
theorem dX7_copyRow_17 : decode cX7_copyRow 17 = .ok (.imul, 1) := by decide +kernel
theorem dX7_copyRow_18 : decode cX7_copyRow 18 = .ok (.istore 5, 2) := by decide +kernel
theorem dX7_copyRow_20 : decode cX7_copyRow 20 = .ok (.iconst 0, 1) := by decide +kernel
theorem dX7_copyRow_21 : decode cX7_copyRow 21 = .ok (.istore 6, 2) := by decide +kernel
theorem dX7_copyRow_23 : decode cX7_copyRow 23 = .ok (.iload 6, 2) := by decide +kernel
theorem dX7_copyRow_25 : decode cX7_copyRow 25 = .ok (.aload_n 0, 1) := by decide +kernel
theorem dX7_copyRow_26 : decode cX7_copyRow 26 = .ok (.getfield 19, 3) := by decide +kernel
theorem dX7_copyRow_29 : decode cX7_copyRow 29 = .ok (.iload_n 1, 1) := by decide +kernel
theorem dX7_copyRow_30 : decode cX7_copyRow 30 = .ok (.iaload, 1) := by decide +kernel
theorem dX7_copyRow_31 : decode cX7_copyRow 31 = .ok (.if_icmp .gt 44, 3) := by decide +kernel
theorem dX7_copyRow_34 : decode cX7_copyRow 34 = .ok (.iload 6, 2) := by decide +kernel
theorem dX7_copyRow_36 : decode cX7_copyRow 36 = .ok (.iconst 5, 1) := by decide +kernel
theorem dX7_copyRow_37 : decode cX7_copyRow 37 = .ok (.if_icmp .ge 38, 3) := by decide +kernel
theorem dX7_copyRow_40 : decode cX7_copyRow 40 = .ok (.aload_n 3, 1) := by decide +kernel
theorem dX7_copyRow_41 : decode cX7_copyRow 41 = .ok (.iload 4, 2) := by decide +kernel
theorem dX7_copyRow_43 : decode cX7_copyRow 43 = .ok (.iload 6, 2) := by decide +kernel
theorem dX7_copyRow_45 : decode cX7_copyRow 45 = .ok (.iadd, 1) := by decide +kernel
theorem dX7_copyRow_46 : decode cX7_copyRow 46 = .ok (.aload_n 0, 1) := by decide +kernel
theorem dX7_copyRow_47 : decode cX7_copyRow 47 = .ok (.getfield 23, 3) := by decide +kernel
theorem dX7_copyRow_50 : decode cX7_copyRow 50 = .ok (.iload 5, 2) := by decide +kernel
theorem dX7_copyRow_52 : decode cX7_copyRow 52 = .ok (.iload 6, 2) := by decide +kernel
theorem dX7_copyRow_54 : decode cX7_copyRow 54 = .ok (.iadd, 1) := by decide +kernel
theorem dX7_copyRow_55 : decode cX7_copyRow 55 = .ok (.laload, 1) := by decide +kernel
theorem dX7_copyRow_56 : decode cX7_copyRow 56 = .ok (.aload_n 0, 1) := by decide +kernel
theorem dX7_copyRow_57 : decode cX7_copyRow 57 = .ok (.getfield 27, 3) := by decide +kernel
theorem dX7_copyRow_60 : decode cX7_copyRow 60 = .ok (.iload 5, 2) := by decide +kernel
theorem dX7_copyRow_62 : decode cX7_copyRow 62 = .ok (.iload 6, 2) := by decide +kernel
theorem dX7_copyRow_64 : decode cX7_copyRow 64 = .ok (.iadd, 1) := by decide +kernel
theorem dX7_copyRow_65 : decode cX7_copyRow 65 = .ok (.baload, 1) := by decide +kernel
theorem dX7_copyRow_66 : decode cX7_copyRow 66 = .ok (.invokevirtual 72, 3) := by decide +kernel
theorem dX7_copyRow_69 : decode cX7_copyRow 69 = .ok (.iinc 6 1, 3) := by decide +kernel
theorem dX7_copyRow_72 : decode cX7_copyRow 72 = .ok (.goto (-49), 3) := by decide +kernel
theorem dX7_copyRow_75 : decode cX7_copyRow 75 = .ok (.return_, 1) := by decide +kernel
def c_X7_copyRow_b75 (F : Nat) (cs1 : CS) : Option CS := some cs1
def c_X7_copyRow_b69 (F : Nat) (rc23 : CS → Nat → Int32 → Nat → Int32 → Int32 → Int32 → Option CS) (cs1 : CS) (u0 : Nat) (u1 : Int32) (u3 : Nat) (u4 : Int32) (u5 : Int32) (u6 : Int32) : Option CS := rc23 cs1 u0 u1 u3 u4 u5 (u6 + 1)
def c_X7_copyRow_L23 (F : Nat) : Nat → CS → Nat → Int32 → Nat → Int32 → Int32 → Int32 → Option CS
  | 0, _, _, _, _, _, _, _ => none
  | lf_23 + 1, cs1, u0, u1, u3, u4, u5, u6 => Option.bind (gA cs1 8 258 u0) fun v_1 => Option.bind (rA cs1 258 u0 v_1 u1) fun v_2 => if v_2 < u6 then (c_X7_copyRow_b75 F cs1) else (if 5 ≤ u6 then (c_X7_copyRow_b75 F cs1) else (Option.bind (gA cs1 8 259 u0) fun v_5 => Option.bind (rB cs1 259 u0 v_5 (u5 + u6)) fun v_6 => Option.bind (gA cs1 8 260 u0) fun v_7 => Option.bind (rA cs1 260 u0 v_7 (u5 + u6)) fun v_8 => Option.bind (ckE cs1 9 u3) fun _ => Option.bind (c_X8_put F cs1 u3 (u4 + u6) v_6 v_8) fun cs_9 => c_X7_copyRow_b69 F (c_X7_copyRow_L23 F lf_23) cs_9 u0 u1 u3 u4 u5 u6))
def c_X7_copyRow (F : Nat) (cs : CS) (x0 : Nat) (x1 : Int32) (x2 : Int32) (x3 : Nat) (x4 : Int32) : Option CS := Option.bind (ckE cs 8 x0) fun _ => Option.bind (c_X7_holds F cs x0 x1 x2) fun v_11 => if v_11 = 0 then (some cs) else (c_X7_copyRow_L23 F F cs x0 x1 x3 x4 (((x1 * 8) + x2) * 5) 0)
theorem cw_X4_X7_copyRow {R : Room} {s : State} {args : Array Value} {y0 : MethodName} {c0 : ByteArray} {n0 : Nat} {r0 : Option FieldType} (hts : ∀ w ∈ wsOf y0 c0 n0 r0, w.before args s = true) {fr mc ms : Nat} (h1 : fr + 1 ≤ R.frames) (h2 : 8 + (7 + 11) + 60 * fr ≤ R.locals) : CallW R s args RX4 RX7 215 yX7_copyRow cX7_copyRow 7 none (wsOf yX7_copyRow cX7_copyRow 7 none) ({ frames := fr, cells := mc, slots := ms, locals := 60 * fr } : Room) mc ms 4 := cwV 4 hts (gd_all (in_V kw_1392 kw_1393 kw_1394 kw_182 kc_X7_copyRow)) rfl rfl rfl (by decide +kernel) ⟨h1, h2⟩
theorem mo_c_X7_copyRow_b75 (F : Nat) (cs1 : CS) (cs9 : CS) (h : c_X7_copyRow_b75 F cs1 = some cs9) : kK cs1 ≤ kK cs9 ∧ kM cs1 ≤ kM cs9 := by
  unfold c_X7_copyRow_b75 at h
  have h9 := Option.some.inj h
  have k9 := congrArg kK h9; have m9 := congrArg kM h9; exact ⟨by omega, by omega⟩
theorem mo_c_X7_copyRow_b69 (F : Nat) (rc23 : CS → Nat → Int32 → Nat → Int32 → Int32 → Int32 → Option CS) (hrc23 : ∀ (cs1 : CS) (u0 : Nat) (u1 : Int32) (u3 : Nat) (u4 : Int32) (u5 : Int32) (u6 : Int32) (cs9 : CS), rc23 cs1 u0 u1 u3 u4 u5 u6 = some cs9 → kK cs1 ≤ kK cs9 ∧ kM cs1 ≤ kM cs9) (cs1 : CS) (u0 : Nat) (u1 : Int32) (u3 : Nat) (u4 : Int32) (u5 : Int32) (u6 : Int32) (cs9 : CS) (h : c_X7_copyRow_b69 F rc23 cs1 u0 u1 u3 u4 u5 u6 = some cs9) : kK cs1 ≤ kK cs9 ∧ kM cs1 ≤ kM cs9 := by
  unfold c_X7_copyRow_b69 at h
  obtain ⟨k9, m9⟩ := hrc23 cs1 u0 u1 u3 u4 u5 (u6 + 1) cs9 h
  exact ⟨by omega, by omega⟩
theorem mo_c_X7_copyRow_L23 (F : Nat) : ∀ (lf_23 : Nat) (cs1 : CS) (u0 : Nat) (u1 : Int32) (u3 : Nat) (u4 : Int32) (u5 : Int32) (u6 : Int32) (cs9 : CS), c_X7_copyRow_L23 F lf_23 cs1 u0 u1 u3 u4 u5 u6 = some cs9 → kK cs1 ≤ kK cs9 ∧ kM cs1 ≤ kM cs9 := by
  intro lf_23
  induction lf_23 with
  | zero => intro cs1 u0 u1 u3 u4 u5 u6 cs9 h; cases (show (none : Option CS) = _ from h)
  | succ lf_23 ih_23 =>
    intro cs1 u0 u1 u3 u4 u5 u6 cs9 h
    rw [c_X7_copyRow_L23] at h
    replace h := ob h; obtain ⟨v_11, hv_11, h⟩ := h
    replace h := ob h; obtain ⟨v_12, hv_12, h⟩ := h
    by_cases c_13 : v_12 < u6
    · skip
      replace h := (if_pos c_13).symm.trans h
      obtain ⟨k9, m9⟩ := mo_c_X7_copyRow_b75 F cs1 cs9 h
      exact ⟨by omega, by omega⟩
    · skip
      replace h := (if_neg c_13).symm.trans h
      by_cases c_14 : 5 ≤ u6
      · skip
        replace h := (if_pos c_14).symm.trans h
        obtain ⟨k9, m9⟩ := mo_c_X7_copyRow_b75 F cs1 cs9 h
        exact ⟨by omega, by omega⟩
      · skip
        replace h := (if_neg c_14).symm.trans h
        replace h := ob h; obtain ⟨v_15, hv_15, h⟩ := h
        replace h := ob h; obtain ⟨v_16, hv_16, h⟩ := h
        replace h := ob h; obtain ⟨v_17, hv_17, h⟩ := h
        replace h := ob h; obtain ⟨v_18, hv_18, h⟩ := h
        replace h := ob h; obtain ⟨w_20, hw_20, h⟩ := h
        replace h := ob h; obtain ⟨cs_19, hv_19, h⟩ := h
        obtain ⟨qk_19, qm_19⟩ := mo_c_X8_put F cs1 u3 (u4 + u6) v_16 v_18 cs_19 hv_19
        obtain ⟨k9, m9⟩ := mo_c_X7_copyRow_b69 F (c_X7_copyRow_L23 F lf_23) ih_23 cs_19 u0 u1 u3 u4 u5 u6 cs9 h
        exact ⟨by omega, by omega⟩
theorem mo_c_X7_copyRow (F : Nat) (cs : CS) (x0 : Nat) (x1 : Int32) (x2 : Int32) (x3 : Nat) (x4 : Int32) (cs9 : CS) (h : c_X7_copyRow F cs x0 x1 x2 x3 x4 = some cs9) : kK cs ≤ kK cs9 ∧ kM cs ≤ kM cs9 := by
  unfold c_X7_copyRow at h
  replace h := ob h; obtain ⟨w_12, hw_12, h⟩ := h
  replace h := ob h; obtain ⟨v_11, hv_11, h⟩ := h
  by_cases c_13 : v_11 = 0
  · skip
    replace h := (if_pos c_13).symm.trans h
    have h9 := Option.some.inj h
    have k9 := congrArg kK h9; have m9 := congrArg kM h9; exact ⟨by omega, by omega⟩
  · skip
    replace h := (if_neg c_13).symm.trans h
    obtain ⟨k9, m9⟩ := mo_c_X7_copyRow_L23 F F cs x0 x1 x3 x4 (((x1 * 8) + x2) * 5) 0 cs9 h
    exact ⟨by omega, by omega⟩
set_option maxHeartbeats 4000000 in
set_option maxRecDepth 100000 in
theorem sa_X7_copyRow (l : Launch) (dC : Nat → ClassId) (dI : Nat → Nat → Nat) (cB cI cJ cZ cS cO : ClassId) (b : Nat) (K V : Nat → Nat) (fz : Value) (F : Nat) (cs : CS) (x0 : Nat) (x1 : Int32) (x2 : Int32) (x3 : Nat) (x4 : Int32) (cs9 : CS) (hf : c_X7_copyRow F cs x0 x1 x2 x3 x4 = some cs9) : oaV l dC dI cB cI cJ cZ cS cO b K V fz yX7_copyRow (wsOf yX7_copyRow cX7_copyRow 7 none) (5) [.ref (b + x0), .int x1, .int x2, .ref (b + x3), .int x4] cs cs9 := by
  obtain ⟨kb9, mb9⟩ := mo_c_X7_copyRow F cs x0 x1 x2 x3 x4 cs9 hf
  refine ⟨⟨kb9, mb9⟩, ?_⟩
  refine Met.ofW (cc := cX7_copyRow) (maxL := 7) (ret := none) (by decide) rfl ?_
  intro p e s m args below meth c s₁ B hml hv
  obtain ⟨rfl, hsz, hP, hK, hD0, hZ⟩ := hv
  have hx := B.exec
  have hb := B.bytes
  have hr := B.returns
  have hts := atoms_spec (ws := (wsOf yX7_copyRow cX7_copyRow 7 none)) B.pre
  have hown : s.vm.findClass RX7 = some m.cls := findClass_of_methodNamed B.named
  have hlocks := B.notSynchronized
  have hD := hD0.self (sz := b + kK cs)
  generalize hAe : va_A (cW cB cI cJ cZ cS cO b cs) (b + kK cs) = A at hD hZ ⊢
  have hA : ∀ q : Nat, s.heap.size ≤ q → A q := fun q h => by rw [← hAe]; exact Or.inr (by omega)
  have hS : va_S A s.heap s.heap [] := va_S.rf
  have hG : va_S A s.heap s.heap [] := va_S.rf
  have hgz : s.heap.size = b + kK cs := hsz
  have hl := lv_entry ([.ref (b + x0), .int x1, .int x2, .ref (b + x3), .int x4]) (n := 7) (Nat.le_of_ble_eq_true rfl)
  rw [lg_entry_eq]
  generalize (lg_sl ([.ref (b + x0), .int x1, .int x2, .ref (b + x3), .int x4]) ++ List.replicate (7 - (lg_sl ([.ref (b + x0), .int x1, .int x2, .ref (b + x3), .int x4])).length) Slot.unset).toArray = ls at hl ⊢
  have hl : lv_has ls 7 [(0, .ref (b + x0)), (1, .int x1), (2, .int x2), (3, .ref (b + x3)), (4, .int x4)] := hl
  have B_75 : ∀ (cs1 : CS) , c_X7_copyRow_b75 F cs1 = some cs9 → kK cs ≤ kK cs1 → kM cs ≤ kM cs1 → ∀ (Gh H : Heap) (locs : List Loc) (ls : Array Slot), va_P (dC, dI) vwCl (cW cB cI cJ cZ cS cO b cs1) H → va_D A (cW cB cI cJ cZ cS cO b cs1) → va_S A s.heap Gh [] → Gh.size = b + kK cs1 → va_S A Gh H locs → lv_has ls 7 [] → W p l e (headSpec (wsOf yX7_copyRow cX7_copyRow 7 none) ({ frames := 5, cells := kK cs9 - kK cs, slots := kM cs9 - kM cs, locals := 60 * (5) } : Room)).room s m ([.ref (b + x0), .int x1, .int x2, .ref (b + x3), .int x4] : List Value).toArray below meth c H locs (kK cs1 - kK cs) (kM cs1 - kM cs) (MQ below (va_Qv (fun (_ : Unit) => True) (fun _ t_ => va_P (dC, dI) vwCl (cW cB cI cJ cZ cS cO b cs9) t_.heap ∧ va_D A (cW cB cI cJ cZ cS cO b cs9) ∧ b + kK cs9 ≤ t_.heap.size) A) ([.ref (b + x0), .int x1, .int x2, .ref (b + x3), .int x4] : List Value).toArray s (kK cs9 - kK cs) (kM cs9 - kM cs) A) (F0 m 75 ls []) := by
    intro cs1  h hmk hmm Gh H locs ls hP hD hG hgz hS hl
    obtain ⟨kb9, mb9⟩ := mo_c_X7_copyRow_b75 F cs1  cs9 h
    unfold c_X7_copyRow_b75 at h
    have e1 := Option.some.inj h
    rw [e1] at hP hD
    have e3 := congrArg kK e1
    have e4 := congrArg kM e1
    refine W_cnt (c2 := kK cs9 - kK cs) (n2 := kM cs9 - kM cs) (by omega) (by omega) ?_
    exact W.vret hx hb hr (fun t_ ht hW => ⟨⟨(), rfl, trivial, by rw [ht]; exact hP, hD, by rw [ht]; have := hS.1; omega⟩, (hG.comp hS).F ht⟩) (hG.comp hS).2.2 dX7_copyRow_75
  have L_23 : ∀ (lf_23 : Nat), ∀ (cs1 : CS) (u0 : Nat) (u1 : Int32) (u3 : Nat) (u4 : Int32) (u5 : Int32) (u6 : Int32), c_X7_copyRow_L23 F lf_23 cs1 u0 u1 u3 u4 u5 u6 = some cs9 → kK cs ≤ kK cs1 → kM cs ≤ kM cs1 → ∀ (Gh H : Heap) (locs : List Loc) (ls : Array Slot), va_P (dC, dI) vwCl (cW cB cI cJ cZ cS cO b cs1) H → va_D A (cW cB cI cJ cZ cS cO b cs1) → va_S A s.heap Gh [] → Gh.size = b + kK cs1 → va_S A Gh H locs → lv_has ls 7 [(0, .ref (b + u0)), (1, .int u1), (3, .ref (b + u3)), (4, .int u4), (5, .int u5), (6, .int u6)] → W p l e (headSpec (wsOf yX7_copyRow cX7_copyRow 7 none) ({ frames := 5, cells := kK cs9 - kK cs, slots := kM cs9 - kM cs, locals := 60 * (5) } : Room)).room s m ([.ref (b + x0), .int x1, .int x2, .ref (b + x3), .int x4] : List Value).toArray below meth c H locs (kK cs1 - kK cs) (kM cs1 - kM cs) (MQ below (va_Qv (fun (_ : Unit) => True) (fun _ t_ => va_P (dC, dI) vwCl (cW cB cI cJ cZ cS cO b cs9) t_.heap ∧ va_D A (cW cB cI cJ cZ cS cO b cs9) ∧ b + kK cs9 ≤ t_.heap.size) A) ([.ref (b + x0), .int x1, .int x2, .ref (b + x3), .int x4] : List Value).toArray s (kK cs9 - kK cs) (kM cs9 - kM cs) A) (F0 m 23 ls []) := by
    intro lf_23
    induction lf_23 with
    | zero => intro cs1 u0 u1 u3 u4 u5 u6 h; cases (show (none : Option CS) = _ from h)
    | succ lf_23 ih_23 =>
      have B_69 : ∀ (cs1 : CS) (u0 : Nat) (u1 : Int32) (u3 : Nat) (u4 : Int32) (u5 : Int32) (u6 : Int32), c_X7_copyRow_b69 F (c_X7_copyRow_L23 F lf_23) cs1 u0 u1 u3 u4 u5 u6 = some cs9 → kK cs ≤ kK cs1 → kM cs ≤ kM cs1 → ∀ (Gh H : Heap) (locs : List Loc) (ls : Array Slot), va_P (dC, dI) vwCl (cW cB cI cJ cZ cS cO b cs1) H → va_D A (cW cB cI cJ cZ cS cO b cs1) → va_S A s.heap Gh [] → Gh.size = b + kK cs1 → va_S A Gh H locs → lv_has ls 7 [(0, .ref (b + u0)), (1, .int u1), (3, .ref (b + u3)), (4, .int u4), (5, .int u5), (6, .int u6)] → W p l e (headSpec (wsOf yX7_copyRow cX7_copyRow 7 none) ({ frames := 5, cells := kK cs9 - kK cs, slots := kM cs9 - kM cs, locals := 60 * (5) } : Room)).room s m ([.ref (b + x0), .int x1, .int x2, .ref (b + x3), .int x4] : List Value).toArray below meth c H locs (kK cs1 - kK cs) (kM cs1 - kM cs) (MQ below (va_Qv (fun (_ : Unit) => True) (fun _ t_ => va_P (dC, dI) vwCl (cW cB cI cJ cZ cS cO b cs9) t_.heap ∧ va_D A (cW cB cI cJ cZ cS cO b cs9) ∧ b + kK cs9 ≤ t_.heap.size) A) ([.ref (b + x0), .int x1, .int x2, .ref (b + x3), .int x4] : List Value).toArray s (kK cs9 - kK cs) (kM cs9 - kM cs) A) (F0 m 69 ls []) := by
        intro cs1 u0 u1 u3 u4 u5 u6 h hmk hmm Gh H locs ls hP hD hG hgz hS hl
        obtain ⟨kb9, mb9⟩ := mo_c_X7_copyRow_b69 F (c_X7_copyRow_L23 F lf_23) (mo_c_X7_copyRow_L23 F lf_23) cs1 u0 u1 u3 u4 u5 u6 cs9 h
        unfold c_X7_copyRow_b69 at h
        refine lv_iinc (v := u6 + 1) (lv' := [(6, .int (u6 + 1)), (0, .ref (b + u0)), (1, .int u1), (3, .ref (b + u3)), (4, .int u4), (5, .int u5)]) hx hb dX7_copyRow_69 hl (k := 5) rfl rfl (by decide) rfl (fun ls hl => ?_)
        refine lv_goto (tgt := 23) hx hb dX7_copyRow_72 (by decide) ?_
        refine W_cnt (c2 := kK cs1 - kK cs) (n2 := kM cs1 - kM cs) (by omega) (by omega) ?_
        exact ih_23 cs1 u0 u1 u3 u4 u5 (u6 + 1) h (by omega) (by omega) _ _ _ _ hP hD hG (by omega) hS (lv_sub hl [1, 2, 3, 4, 5, 0] rfl)
      intro cs1 u0 u1 u3 u4 u5 u6 h hmk hmm Gh H locs ls hP hD hG hgz hS hl
      obtain ⟨kb9, mb9⟩ := mo_c_X7_copyRow_L23 F (lf_23 + 1) cs1 u0 u1 u3 u4 u5 u6 cs9 h
      rw [c_X7_copyRow_L23] at h
      refine lv_iload hx hb dX7_copyRow_23 (lv_at hl 5 rfl) ?_
      refine lv_aload_n hx hb dX7_copyRow_25 rfl (lv_at hl 0 rfl) ?_
      replace h := ob h; obtain ⟨v_1, hv_1, h⟩ := h
      refine fg_X7_19 hx hb hts hown hK hP hv_1 dX7_copyRow_26 ?_
      refine lv_iload_n hx hb dX7_copyRow_29 rfl (lv_at hl 1 rfl) ?_
      replace h := ob h; obtain ⟨v_2, hv_2, h⟩ := h
      refine ald0 hx hb hK hP rfl hv_2 dX7_copyRow_30 ?_
      refine lv_icmp_gt (tgt := 75) hx hb dX7_copyRow_31 (by decide) (fun c_3 => ?_) (fun c_3 => ?_)
      · skip
        replace h := (if_pos c_3).symm.trans h
        refine W_cnt (c2 := kK cs1 - kK cs) (n2 := kM cs1 - kM cs) (by omega) (by omega) ?_
        exact B_75 cs1 h (by omega) (by omega) _ _ _ _ hP hD hG (by omega) hS (lv_sub hl [] rfl)
      · skip
        replace h := (if_neg c_3).symm.trans h
        refine lv_iload hx hb dX7_copyRow_34 (lv_at hl 5 rfl) ?_
        refine lv_iconst (v := 5) hx hb dX7_copyRow_36 (by decide) ?_
        refine lv_icmp_ge (tgt := 75) hx hb dX7_copyRow_37 (by decide) (fun c_4 => ?_) (fun c_4 => ?_)
        · skip
          replace h := (if_pos c_4).symm.trans h
          refine W_cnt (c2 := kK cs1 - kK cs) (n2 := kM cs1 - kM cs) (by omega) (by omega) ?_
          exact B_75 cs1 h (by omega) (by omega) _ _ _ _ hP hD hG (by omega) hS (lv_sub hl [] rfl)
        · skip
          replace h := (if_neg c_4).symm.trans h
          refine lv_aload_n hx hb dX7_copyRow_40 rfl (lv_at hl 2 rfl) ?_
          refine lv_iload hx hb dX7_copyRow_41 (lv_at hl 3 rfl) ?_
          refine lv_iload hx hb dX7_copyRow_43 (lv_at hl 5 rfl) ?_
          refine lv_iadd hx hb dX7_copyRow_45 ?_
          refine lv_aload_n hx hb dX7_copyRow_46 rfl (lv_at hl 0 rfl) ?_
          replace h := ob h; obtain ⟨v_5, hv_5, h⟩ := h
          refine fg_X7_23 hx hb hts hown hK hP hv_5 dX7_copyRow_47 ?_
          refine lv_iload hx hb dX7_copyRow_50 (lv_at hl 4 rfl) ?_
          refine lv_iload hx hb dX7_copyRow_52 (lv_at hl 5 rfl) ?_
          refine lv_iadd hx hb dX7_copyRow_54 ?_
          replace h := ob h; obtain ⟨v_6, hv_6, h⟩ := h
          refine ald2 hx hb hK hP rfl hv_6 dX7_copyRow_55 ?_
          refine lv_aload_n hx hb dX7_copyRow_56 rfl (lv_at hl 0 rfl) ?_
          replace h := ob h; obtain ⟨v_7, hv_7, h⟩ := h
          refine fg_X7_27 hx hb hts hown hK hP hv_7 dX7_copyRow_57 ?_
          refine lv_iload hx hb dX7_copyRow_60 (lv_at hl 4 rfl) ?_
          refine lv_iload hx hb dX7_copyRow_62 (lv_at hl 5 rfl) ?_
          refine lv_iadd hx hb dX7_copyRow_64 ?_
          replace h := ob h; obtain ⟨v_8, hv_8, h⟩ := h
          refine ald1 hx hb hK hP rfl hv_8 dX7_copyRow_65 ?_
          replace h := ob h; obtain ⟨w_10, hw_10, h⟩ := h
          replace h := ob h; obtain ⟨cs_9, hv_9, h⟩ := h
          obtain ⟨qk_9, qm_9⟩ := mo_c_X8_put F cs1 u3 (u4 + u6) v_6 v_8 cs_9 hv_9
          obtain ⟨k9_9, m9_9⟩ := mo_c_X7_copyRow_b69 F (c_X7_copyRow_L23 F lf_23) (mo_c_X7_copyRow_L23 F lf_23) cs_9 u0 u1 u3 u4 u5 u6 cs9 h
          refine cavV (As := [.int (u4 + u6), .long v_6, .int v_8]) hx hb hml hts hown hK hP hD hS hG hA (by omega) (by omega) hZ (X := 9) (by decide) rfl (ckE_some hw_10) (sa_X8_put l dC dI cB cI cJ cZ cS cO b K V fz F cs1 u3 (u4 + u6) v_6 v_8 cs_9 hv_9) (cw_X7_X8_put hts (fr := 4) (Nat.le_of_ble_eq_true rfl) (Nat.le_of_ble_eq_true rfl)) rfl hl.1 (Nat.le_of_ble_eq_true rfl) ⟨by show kK cs1 - kK cs + (kK cs_9 - kK cs1) ≤ kK cs9 - kK cs; omega, by show kM cs1 - kM cs + (kM cs_9 - kM cs1) ≤ kM cs9 - kM cs; omega⟩ dX7_copyRow_66 (fun H locs hP hD hG hgz hS => ?_)
          refine W_cnt (c2 := kK cs_9 - kK cs) (n2 := kM cs_9 - kM cs) (by omega) (by omega) ?_
          exact B_69 cs_9 u0 u1 u3 u4 u5 u6 h (by omega) (by omega) _ _ _ _ hP hD hG (by omega) hS (lv_sub hl [0, 1, 2, 3, 4, 5] rfl)
  have h := hf
  unfold c_X7_copyRow at h
  refine W_cnt (c2 := kK cs - kK cs) (n2 := kM cs - kM cs) (by omega) (by omega) ?_
  refine lv_aload_n hx hb dX7_copyRow_0 rfl (lv_at hl 0 rfl) ?_
  refine lv_iload_n hx hb dX7_copyRow_1 rfl (lv_at hl 1 rfl) ?_
  refine lv_iload_n hx hb dX7_copyRow_2 rfl (lv_at hl 2 rfl) ?_
  replace h := ob h; obtain ⟨w_12, hw_12, h⟩ := h
  replace h := ob h; obtain ⟨v_11, hv_11, h⟩ := h
  refine cbvI (As := [.int x1, .int x2]) hx hb hml hts hown hK hP hD hS hG hA (by omega) (by omega) hZ (X := 8) (by decide) rfl (ckE_some hw_12) (sc_X7_holds l dC dI cB cI cJ cZ cS cO b K V fz F cs x0 x1 x2 v_11 hv_11) (cw_X7_X7_holds hts (fr := 1) (Nat.le_of_ble_eq_true rfl) (Nat.le_of_ble_eq_true rfl)) rfl hl.1 (Nat.le_of_ble_eq_true rfl) ⟨by show kK cs - kK cs ≤ kK cs9 - kK cs; omega, by show kM cs - kM cs ≤ kM cs9 - kM cs; omega⟩ dX7_copyRow_3 (fun H locs hP hD hG hgz hS => ?_)
  refine lv_if_ne (tgt := 10) hx hb dX7_copyRow_6 (by decide) (fun c_13 => ?_) (fun c_13 => ?_)
  · skip
    replace h := (if_neg c_13).symm.trans h
    refine lv_iload_n hx hb dX7_copyRow_10 rfl (lv_at hl 1 rfl) ?_
    refine lv_bipush (v := 8) hx hb dX7_copyRow_11 (by decide) ?_
    refine lv_imul hx hb dX7_copyRow_13 ?_
    refine lv_iload_n hx hb dX7_copyRow_14 rfl (lv_at hl 2 rfl) ?_
    refine lv_iadd hx hb dX7_copyRow_15 ?_
    refine lv_iconst (v := 5) hx hb dX7_copyRow_16 (by decide) ?_
    refine lv_imul hx hb dX7_copyRow_17 ?_
    refine lv_istore (lv' := [(5, .int (((x1 * 8) + x2) * 5)), (0, .ref (b + x0)), (1, .int x1), (2, .int x2), (3, .ref (b + x3)), (4, .int x4)]) hx hb dX7_copyRow_18 hl (by decide) rfl (fun ls hl => ?_)
    refine lv_iconst (v := 0) hx hb dX7_copyRow_20 (by decide) ?_
    refine lv_istore (lv' := [(6, .int 0), (5, .int (((x1 * 8) + x2) * 5)), (0, .ref (b + x0)), (1, .int x1), (2, .int x2), (3, .ref (b + x3)), (4, .int x4)]) hx hb dX7_copyRow_21 hl (by decide) rfl (fun ls hl => ?_)
    refine W_cnt (c2 := kK cs - kK cs) (n2 := kM cs - kM cs) (by omega) (by omega) ?_
    exact L_23 F cs x0 x1 x3 x4 (((x1 * 8) + x2) * 5) 0 h (by omega) (by omega) _ _ _ _ hP hD hG (by omega) hS (lv_sub hl [2, 3, 5, 6, 1, 0] rfl)
  · skip
    replace h := (if_pos c_13).symm.trans h
    have e1 := Option.some.inj h
    rw [e1] at hP hD
    have e3 := congrArg kK e1
    have e4 := congrArg kM e1
    refine W_cnt (c2 := kK cs9 - kK cs) (n2 := kM cs9 - kM cs) (by omega) (by omega) ?_
    exact W.vret hx hb hr (fun t_ ht hW => ⟨⟨(), rfl, trivial, by rw [ht]; exact hP, hD, by rw [ht]; have := hS.1; omega⟩, (hG.comp hS).F ht⟩) (hG.comp hS).2.2 dX7_copyRow_9
theorem dX8_copy_0 : decode cX8_copy 0 = .ok (.aload_n 0, 1) := by decide +kernel
theorem dX8_copy_1 : decode cX8_copy 1 = .ok (.iload_n 1, 1) := by decide +kernel
theorem dX8_copy_2 : decode cX8_copy 2 = .ok (.iload_n 2, 1) := by decide +kernel
theorem dX8_copy_3 : decode cX8_copy 3 = .ok (.invokestatic 47, 3) := by decide +kernel
theorem dX8_copy_6 : decode cX8_copy 6 = .ok (.iload_n 3, 1) := by decide +kernel
theorem dX8_copy_7 : decode cX8_copy 7 = .ok (.iadd, 1) := by decide +kernel
theorem dX8_copy_8 : decode cX8_copy 8 = .ok (.invokevirtual 39, 3) := by decide +kernel
theorem dX8_copy_11 : decode cX8_copy 11 = .ok (.iload_n 3, 1) := by decide +kernel
theorem dX8_copy_12 : decode cX8_copy 12 = .ok (.ifCond .le 71, 3) := by decide +kernel
theorem dX8_copy_15 : decode cX8_copy 15 = .ok (.aload_n 0, 1) := by decide +kernel
theorem dX8_copy_16 : decode cX8_copy 16 = .ok (.iload_n 1, 1) := by decide +kernel
theorem dX8_copy_17 : decode cX8_copy 17 = .ok (.invokevirtual 35, 3) := by decide +kernel
theorem dX8_copy_20 : decode cX8_copy 20 = .ok (.ifCond .eq 63, 3) := by decide +kernel
theorem dX8_copy_23 : decode cX8_copy 23 = .ok (.aload_n 0, 1) := by decide +kernel
theorem dX8_copy_24 : decode cX8_copy 24 = .ok (.iload_n 2, 1) := by decide +kernel
theorem dX8_copy_25 : decode cX8_copy 25 = .ok (.invokevirtual 35, 3) := by decide +kernel
theorem dX8_copy_28 : decode cX8_copy 28 = .ok (.ifCond .eq 55, 3) := by decide +kernel
theorem dX8_copy_31 : decode cX8_copy 31 = .ok (.aload_n 0, 1) := by decide +kernel
theorem dX8_copy_32 : decode cX8_copy 32 = .ok (.iload_n 1, 1) := by decide +kernel
theorem dX8_copy_33 : decode cX8_copy 33 = .ok (.iload_n 3, 1) := by decide +kernel
theorem dX8_copy_34 : decode cX8_copy 34 = .ok (.iadd, 1) := by decide +kernel
theorem dX8_copy_35 : decode cX8_copy 35 = .ok (.iconst 1, 1) := by decide +kernel
theorem dX8_copy_36 : decode cX8_copy 36 = .ok (.isub, 1) := by decide +kernel
theorem dX8_copy_37 : decode cX8_copy 37 = .ok (.invokevirtual 35, 3) := by decide +kernel
theorem dX8_copy_40 : decode cX8_copy 40 = .ok (.ifCond .eq 43, 3) := by decide +kernel
theorem dX8_copy_43 : decode cX8_copy 43 = .ok (.aload_n 0, 1) := by decide +kernel
theorem dX8_copy_44 : decode cX8_copy 44 = .ok (.iload_n 2, 1) := by decide +kernel
theorem dX8_copy_45 : decode cX8_copy 45 = .ok (.iload_n 3, 1) := by decide +kernel
theorem dX8_copy_46 : decode cX8_copy 46 = .ok (.iadd, 1) := by decide +kernel
theorem dX8_copy_47 : decode cX8_copy 47 = .ok (.iconst 1, 1) := by decide +kernel
theorem dX8_copy_48 : decode cX8_copy 48 = .ok (.isub, 1) := by decide +kernel
theorem dX8_copy_49 : decode cX8_copy 49 = .ok (.invokevirtual 35, 3) := by decide +kernel
theorem dX8_copy_52 : decode cX8_copy 52 = .ok (.ifCond .eq 31, 3) := by decide +kernel
theorem dX8_copy_55 : decode cX8_copy 55 = .ok (.aload_n 0, 1) := by decide +kernel
theorem dX8_copy_56 : decode cX8_copy 56 = .ok (.getfield 11, 3) := by decide +kernel
theorem dX8_copy_59 : decode cX8_copy 59 = .ok (.iload_n 1, 1) := by decide +kernel
theorem dX8_copy_60 : decode cX8_copy 60 = .ok (.aload_n 0, 1) := by decide +kernel
theorem dX8_copy_61 : decode cX8_copy 61 = .ok (.getfield 11, 3) := by decide +kernel
theorem dX8_copy_64 : decode cX8_copy 64 = .ok (.iload_n 2, 1) := by decide +kernel
theorem dX8_copy_65 : decode cX8_copy 65 = .ok (.iload_n 3, 1) := by decide +kernel
theorem dX8_copy_66 : decode cX8_copy 66 = .ok (.invokestatic 53, 3) := by decide +kernel
theorem dX8_copy_69 : decode cX8_copy 69 = .ok (.aload_n 0, 1) := by decide +kernel
theorem dX8_copy_70 : decode cX8_copy 70 = .ok (.getfield 15, 3) := by decide +kernel
theorem dX8_copy_73 : decode cX8_copy 73 = .ok (.iload_n 1, 1) := by decide +kernel
theorem dX8_copy_74 : decode cX8_copy 74 = .ok (.aload_n 0, 1) := by decide +kernel
theorem dX8_copy_75 : decode cX8_copy 75 = .ok (.getfield 15, 3) := by decide +kernel
theorem dX8_copy_78 : decode cX8_copy 78 = .ok (.iload_n 2, 1) := by decide +kernel
theorem dX8_copy_79 : decode cX8_copy 79 = .ok (.iload_n 3, 1) := by decide +kernel
theorem dX8_copy_80 : decode cX8_copy 80 = .ok (.invokestatic 53, 3) := by decide +kernel
theorem dX8_copy_83 : decode cX8_copy 83 = .ok (.return_, 1) := by decide +kernel
def c_X8_copy_b83 (F : Nat) (cs1 : CS) : Option CS := some cs1
def c_X8_copy_b11 (F : Nat) (cs1 : CS) (u0 : Nat) (u1 : Int32) (u2 : Int32) (u3 : Int32) : Option CS := if u3 ≤ 0 then (c_X8_copy_b83 F cs1) else (Option.bind (ckE cs1 9 u0) fun _ => Option.bind (c_X8_holds F cs1 u0 u1) fun v_2 => if v_2 = 0 then (c_X8_copy_b83 F cs1) else (Option.bind (ckE cs1 9 u0) fun _ => Option.bind (c_X8_holds F cs1 u0 u2) fun v_5 => if v_5 = 0 then (c_X8_copy_b83 F cs1) else (Option.bind (ckE cs1 9 u0) fun _ => Option.bind (c_X8_holds F cs1 u0 ((u1 + u3) - 1)) fun v_8 => if v_8 = 0 then (c_X8_copy_b83 F cs1) else (Option.bind (ckE cs1 9 u0) fun _ => Option.bind (c_X8_holds F cs1 u0 ((u2 + u3) - 1)) fun v_11 => if v_11 = 0 then (c_X8_copy_b83 F cs1) else (Option.bind (gA cs1 9 288 u0) fun v_14 => Option.bind (gA cs1 9 288 u0) fun v_15 => Option.bind (cpB cs1 288 u0 v_14 u1 288 u0 v_15 u2 u3) fun cs_16 => Option.bind (gA cs_16 9 289 u0) fun v_17 => Option.bind (gA cs_16 9 289 u0) fun v_18 => Option.bind (cpA cs_16 289 u0 v_17 u1 289 u0 v_18 u2 u3) fun cs_19 => c_X8_copy_b83 F cs_19)))))
def c_X8_copy (F : Nat) (cs : CS) (x0 : Nat) (x1 : Int32) (x2 : Int32) (x3 : Int32) : Option CS := Option.bind (ckE cs 9 x0) fun _ => Option.bind (c_X8_reserve F cs x0 ((if x1 < x2 then x2 else x1) + x3)) fun cs_20 => c_X8_copy_b11 F cs_20 x0 x1 x2 x3
theorem cw_X4_X8_copy {R : Room} {s : State} {args : Array Value} {y0 : MethodName} {c0 : ByteArray} {n0 : Nat} {r0 : Option FieldType} (hts : ∀ w ∈ wsOf y0 c0 n0 r0, w.before args s = true) {fr mc ms : Nat} (h1 : fr + 1 ≤ R.frames) (h2 : 8 + (4 + 11) + 60 * fr ≤ R.locals) : CallW R s args RX4 RX8 89 yX8_copy cX8_copy 4 none (wsOf yX8_copy cX8_copy 4 none) ({ frames := fr, cells := mc, slots := ms, locals := 60 * fr } : Room) mc ms 3 := cwV 3 hts (gd_all (in_V kw_1408 kw_1409 kw_1410 kw_188 kc_X8_copy)) rfl rfl rfl (by decide +kernel) ⟨h1, h2⟩
theorem cw_X8_X8_copy {R : Room} {s : State} {args : Array Value} {y0 : MethodName} {c0 : ByteArray} {n0 : Nat} {r0 : Option FieldType} (hts : ∀ w ∈ wsOf y0 c0 n0 r0, w.before args s = true) {fr mc ms : Nat} (h1 : fr + 1 ≤ R.frames) (h2 : 8 + (4 + 11) + 60 * fr ≤ R.locals) : CallW R s args RX8 RX8 73 yX8_copy cX8_copy 4 none (wsOf yX8_copy cX8_copy 4 none) ({ frames := fr, cells := mc, slots := ms, locals := 60 * fr } : Room) mc ms 3 := cwV 3 hts (gd_all (in_V kw_1504 kw_1409 kw_1410 kw_188 kc_X8_copy)) rfl rfl rfl (by decide +kernel) ⟨h1, h2⟩
theorem mo_c_X8_copy_b83 (F : Nat) (cs1 : CS) (cs9 : CS) (h : c_X8_copy_b83 F cs1 = some cs9) : kK cs1 ≤ kK cs9 ∧ kM cs1 ≤ kM cs9 := by
  unfold c_X8_copy_b83 at h
  have h9 := Option.some.inj h
  have k9 := congrArg kK h9; have m9 := congrArg kM h9; exact ⟨by omega, by omega⟩
theorem mo_c_X8_copy_b11 (F : Nat) (cs1 : CS) (u0 : Nat) (u1 : Int32) (u2 : Int32) (u3 : Int32) (cs9 : CS) (h : c_X8_copy_b11 F cs1 u0 u1 u2 u3 = some cs9) : kK cs1 ≤ kK cs9 ∧ kM cs1 ≤ kM cs9 := by
  unfold c_X8_copy_b11 at h
  by_cases c_20 : u3 ≤ 0
  · skip
    replace h := (if_pos c_20).symm.trans h
    obtain ⟨k9, m9⟩ := mo_c_X8_copy_b83 F cs1 cs9 h
    exact ⟨by omega, by omega⟩
  · skip
    replace h := (if_neg c_20).symm.trans h
    replace h := ob h; obtain ⟨w_22, hw_22, h⟩ := h
    replace h := ob h; obtain ⟨v_21, hv_21, h⟩ := h
    by_cases c_23 : v_21 = 0
    · skip
      replace h := (if_pos c_23).symm.trans h
      obtain ⟨k9, m9⟩ := mo_c_X8_copy_b83 F cs1 cs9 h
      exact ⟨by omega, by omega⟩
    · skip
      replace h := (if_neg c_23).symm.trans h
      replace h := ob h; obtain ⟨w_25, hw_25, h⟩ := h
      replace h := ob h; obtain ⟨v_24, hv_24, h⟩ := h
      by_cases c_26 : v_24 = 0
      · skip
        replace h := (if_pos c_26).symm.trans h
        obtain ⟨k9, m9⟩ := mo_c_X8_copy_b83 F cs1 cs9 h
        exact ⟨by omega, by omega⟩
      · skip
        replace h := (if_neg c_26).symm.trans h
        replace h := ob h; obtain ⟨w_28, hw_28, h⟩ := h
        replace h := ob h; obtain ⟨v_27, hv_27, h⟩ := h
        by_cases c_29 : v_27 = 0
        · skip
          replace h := (if_pos c_29).symm.trans h
          obtain ⟨k9, m9⟩ := mo_c_X8_copy_b83 F cs1 cs9 h
          exact ⟨by omega, by omega⟩
        · skip
          replace h := (if_neg c_29).symm.trans h
          replace h := ob h; obtain ⟨w_31, hw_31, h⟩ := h
          replace h := ob h; obtain ⟨v_30, hv_30, h⟩ := h
          by_cases c_32 : v_30 = 0
          · skip
            replace h := (if_pos c_32).symm.trans h
            obtain ⟨k9, m9⟩ := mo_c_X8_copy_b83 F cs1 cs9 h
            exact ⟨by omega, by omega⟩
          · skip
            replace h := (if_neg c_32).symm.trans h
            replace h := ob h; obtain ⟨v_33, hv_33, h⟩ := h
            replace h := ob h; obtain ⟨v_34, hv_34, h⟩ := h
            replace h := ob h; obtain ⟨cs_35, hv_35, h⟩ := h
            obtain ⟨qk_35, qm_35⟩ := cpB_k hv_35
            replace h := ob h; obtain ⟨v_36, hv_36, h⟩ := h
            replace h := ob h; obtain ⟨v_37, hv_37, h⟩ := h
            replace h := ob h; obtain ⟨cs_38, hv_38, h⟩ := h
            obtain ⟨qk_38, qm_38⟩ := cpA_k hv_38
            obtain ⟨k9, m9⟩ := mo_c_X8_copy_b83 F cs_38 cs9 h
            exact ⟨by omega, by omega⟩
theorem mo_c_X8_copy (F : Nat) (cs : CS) (x0 : Nat) (x1 : Int32) (x2 : Int32) (x3 : Int32) (cs9 : CS) (h : c_X8_copy F cs x0 x1 x2 x3 = some cs9) : kK cs ≤ kK cs9 ∧ kM cs ≤ kM cs9 := by
  unfold c_X8_copy at h
  replace h := ob h; obtain ⟨w_21, hw_21, h⟩ := h
  replace h := ob h; obtain ⟨cs_20, hv_20, h⟩ := h
  obtain ⟨qk_20, qm_20⟩ := mo_c_X8_reserve F cs x0 ((if x1 < x2 then x2 else x1) + x3) cs_20 hv_20
  obtain ⟨k9, m9⟩ := mo_c_X8_copy_b11 F cs_20 x0 x1 x2 x3 cs9 h
  exact ⟨by omega, by omega⟩
set_option maxHeartbeats 4000000 in
set_option maxRecDepth 100000 in
theorem sa_X8_copy (l : Launch) (dC : Nat → ClassId) (dI : Nat → Nat → Nat) (cB cI cJ cZ cS cO : ClassId) (b : Nat) (K V : Nat → Nat) (fz : Value) (F : Nat) (cs : CS) (x0 : Nat) (x1 : Int32) (x2 : Int32) (x3 : Int32) (cs9 : CS) (hf : c_X8_copy F cs x0 x1 x2 x3 = some cs9) : oaV l dC dI cB cI cJ cZ cS cO b K V fz yX8_copy (wsOf yX8_copy cX8_copy 4 none) (4) [.ref (b + x0), .int x1, .int x2, .int x3] cs cs9 := by
  obtain ⟨kb9, mb9⟩ := mo_c_X8_copy F cs x0 x1 x2 x3 cs9 hf
  refine ⟨⟨kb9, mb9⟩, ?_⟩
  refine Met.ofW (cc := cX8_copy) (maxL := 4) (ret := none) (by decide) rfl ?_
  intro p e s m args below meth c s₁ B hml hv
  obtain ⟨rfl, hsz, hP, hK, hD0, hZ⟩ := hv
  have hx := B.exec
  have hb := B.bytes
  have hr := B.returns
  have hts := atoms_spec (ws := (wsOf yX8_copy cX8_copy 4 none)) B.pre
  have hown : s.vm.findClass RX8 = some m.cls := findClass_of_methodNamed B.named
  have hlocks := B.notSynchronized
  have hD := hD0.self (sz := b + kK cs)
  generalize hAe : va_A (cW cB cI cJ cZ cS cO b cs) (b + kK cs) = A at hD hZ ⊢
  have hA : ∀ q : Nat, s.heap.size ≤ q → A q := fun q h => by rw [← hAe]; exact Or.inr (by omega)
  have hS : va_S A s.heap s.heap [] := va_S.rf
  have hG : va_S A s.heap s.heap [] := va_S.rf
  have hgz : s.heap.size = b + kK cs := hsz
  have hl := lv_entry ([.ref (b + x0), .int x1, .int x2, .int x3]) (n := 4) (Nat.le_of_ble_eq_true rfl)
  rw [lg_entry_eq]
  generalize (lg_sl ([.ref (b + x0), .int x1, .int x2, .int x3]) ++ List.replicate (4 - (lg_sl ([.ref (b + x0), .int x1, .int x2, .int x3])).length) Slot.unset).toArray = ls at hl ⊢
  have hl : lv_has ls 4 [(0, .ref (b + x0)), (1, .int x1), (2, .int x2), (3, .int x3)] := hl
  have B_83 : ∀ (cs1 : CS) , c_X8_copy_b83 F cs1 = some cs9 → kK cs ≤ kK cs1 → kM cs ≤ kM cs1 → ∀ (Gh H : Heap) (locs : List Loc) (ls : Array Slot), va_P (dC, dI) vwCl (cW cB cI cJ cZ cS cO b cs1) H → va_D A (cW cB cI cJ cZ cS cO b cs1) → va_S A s.heap Gh [] → Gh.size = b + kK cs1 → va_S A Gh H locs → lv_has ls 4 [] → W p l e (headSpec (wsOf yX8_copy cX8_copy 4 none) ({ frames := 4, cells := kK cs9 - kK cs, slots := kM cs9 - kM cs, locals := 60 * (4) } : Room)).room s m ([.ref (b + x0), .int x1, .int x2, .int x3] : List Value).toArray below meth c H locs (kK cs1 - kK cs) (kM cs1 - kM cs) (MQ below (va_Qv (fun (_ : Unit) => True) (fun _ t_ => va_P (dC, dI) vwCl (cW cB cI cJ cZ cS cO b cs9) t_.heap ∧ va_D A (cW cB cI cJ cZ cS cO b cs9) ∧ b + kK cs9 ≤ t_.heap.size) A) ([.ref (b + x0), .int x1, .int x2, .int x3] : List Value).toArray s (kK cs9 - kK cs) (kM cs9 - kM cs) A) (F0 m 83 ls []) := by
    intro cs1  h hmk hmm Gh H locs ls hP hD hG hgz hS hl
    obtain ⟨kb9, mb9⟩ := mo_c_X8_copy_b83 F cs1  cs9 h
    unfold c_X8_copy_b83 at h
    have e1 := Option.some.inj h
    rw [e1] at hP hD
    have e3 := congrArg kK e1
    have e4 := congrArg kM e1
    refine W_cnt (c2 := kK cs9 - kK cs) (n2 := kM cs9 - kM cs) (by omega) (by omega) ?_
    exact W.vret hx hb hr (fun t_ ht hW => ⟨⟨(), rfl, trivial, by rw [ht]; exact hP, hD, by rw [ht]; have := hS.1; omega⟩, (hG.comp hS).F ht⟩) (hG.comp hS).2.2 dX8_copy_83
  have B_11 : ∀ (cs1 : CS) (u0 : Nat) (u1 : Int32) (u2 : Int32) (u3 : Int32), c_X8_copy_b11 F cs1 u0 u1 u2 u3 = some cs9 → kK cs ≤ kK cs1 → kM cs ≤ kM cs1 → ∀ (Gh H : Heap) (locs : List Loc) (ls : Array Slot), va_P (dC, dI) vwCl (cW cB cI cJ cZ cS cO b cs1) H → va_D A (cW cB cI cJ cZ cS cO b cs1) → va_S A s.heap Gh [] → Gh.size = b + kK cs1 → va_S A Gh H locs → lv_has ls 4 [(0, .ref (b + u0)), (1, .int u1), (2, .int u2), (3, .int u3)] → W p l e (headSpec (wsOf yX8_copy cX8_copy 4 none) ({ frames := 4, cells := kK cs9 - kK cs, slots := kM cs9 - kM cs, locals := 60 * (4) } : Room)).room s m ([.ref (b + x0), .int x1, .int x2, .int x3] : List Value).toArray below meth c H locs (kK cs1 - kK cs) (kM cs1 - kM cs) (MQ below (va_Qv (fun (_ : Unit) => True) (fun _ t_ => va_P (dC, dI) vwCl (cW cB cI cJ cZ cS cO b cs9) t_.heap ∧ va_D A (cW cB cI cJ cZ cS cO b cs9) ∧ b + kK cs9 ≤ t_.heap.size) A) ([.ref (b + x0), .int x1, .int x2, .int x3] : List Value).toArray s (kK cs9 - kK cs) (kM cs9 - kM cs) A) (F0 m 11 ls []) := by
    intro cs1 u0 u1 u2 u3 h hmk hmm Gh H locs ls hP hD hG hgz hS hl
    obtain ⟨kb9, mb9⟩ := mo_c_X8_copy_b11 F cs1 u0 u1 u2 u3 cs9 h
    unfold c_X8_copy_b11 at h
    refine lv_iload_n hx hb dX8_copy_11 rfl (lv_at hl 3 rfl) ?_
    refine lv_if_le (tgt := 83) hx hb dX8_copy_12 (by decide) (fun c_1 => ?_) (fun c_1 => ?_)
    · skip
      replace h := (if_pos c_1).symm.trans h
      refine W_cnt (c2 := kK cs1 - kK cs) (n2 := kM cs1 - kM cs) (by omega) (by omega) ?_
      exact B_83 cs1 h (by omega) (by omega) _ _ _ _ hP hD hG (by omega) hS (lv_sub hl [] rfl)
    · skip
      replace h := (if_neg c_1).symm.trans h
      refine lv_aload_n hx hb dX8_copy_15 rfl (lv_at hl 0 rfl) ?_
      refine lv_iload_n hx hb dX8_copy_16 rfl (lv_at hl 1 rfl) ?_
      replace h := ob h; obtain ⟨w_3, hw_3, h⟩ := h
      replace h := ob h; obtain ⟨v_2, hv_2, h⟩ := h
      refine cbvI (As := [.int u1]) hx hb hml hts hown hK hP hD hS hG hA (by omega) (by omega) hZ (X := 9) (by decide) rfl (ckE_some hw_3) (sc_X8_holds l dC dI cB cI cJ cZ cS cO b K V fz F cs1 u0 u1 v_2 hv_2) (cw_X8_X8_holds hts (fr := 0) (Nat.le_of_ble_eq_true rfl) (Nat.le_of_ble_eq_true rfl)) rfl hl.1 (Nat.le_of_ble_eq_true rfl) ⟨by show kK cs1 - kK cs ≤ kK cs9 - kK cs; omega, by show kM cs1 - kM cs ≤ kM cs9 - kM cs; omega⟩ dX8_copy_17 (fun H locs hP hD hG hgz hS => ?_)
      refine lv_if_eq (tgt := 83) hx hb dX8_copy_20 (by decide) (fun c_4 => ?_) (fun c_4 => ?_)
      · skip
        replace h := (if_pos c_4).symm.trans h
        refine W_cnt (c2 := kK cs1 - kK cs) (n2 := kM cs1 - kM cs) (by omega) (by omega) ?_
        exact B_83 cs1 h (by omega) (by omega) _ _ _ _ hP hD hG (by omega) hS (lv_sub hl [] rfl)
      · skip
        replace h := (if_neg c_4).symm.trans h
        refine lv_aload_n hx hb dX8_copy_23 rfl (lv_at hl 0 rfl) ?_
        refine lv_iload_n hx hb dX8_copy_24 rfl (lv_at hl 2 rfl) ?_
        replace h := ob h; obtain ⟨w_6, hw_6, h⟩ := h
        replace h := ob h; obtain ⟨v_5, hv_5, h⟩ := h
        refine cbvI (As := [.int u2]) hx hb hml hts hown hK hP hD hS hG hA (by omega) (by omega) hZ (X := 9) (by decide) rfl (ckE_some hw_6) (sc_X8_holds l dC dI cB cI cJ cZ cS cO b K V fz F cs1 u0 u2 v_5 hv_5) (cw_X8_X8_holds hts (fr := 0) (Nat.le_of_ble_eq_true rfl) (Nat.le_of_ble_eq_true rfl)) rfl hl.1 (Nat.le_of_ble_eq_true rfl) ⟨by show kK cs1 - kK cs ≤ kK cs9 - kK cs; omega, by show kM cs1 - kM cs ≤ kM cs9 - kM cs; omega⟩ dX8_copy_25 (fun H locs hP hD hG hgz hS => ?_)
        refine lv_if_eq (tgt := 83) hx hb dX8_copy_28 (by decide) (fun c_7 => ?_) (fun c_7 => ?_)
        · skip
          replace h := (if_pos c_7).symm.trans h
          refine W_cnt (c2 := kK cs1 - kK cs) (n2 := kM cs1 - kM cs) (by omega) (by omega) ?_
          exact B_83 cs1 h (by omega) (by omega) _ _ _ _ hP hD hG (by omega) hS (lv_sub hl [] rfl)
        · skip
          replace h := (if_neg c_7).symm.trans h
          refine lv_aload_n hx hb dX8_copy_31 rfl (lv_at hl 0 rfl) ?_
          refine lv_iload_n hx hb dX8_copy_32 rfl (lv_at hl 1 rfl) ?_
          refine lv_iload_n hx hb dX8_copy_33 rfl (lv_at hl 3 rfl) ?_
          refine lv_iadd hx hb dX8_copy_34 ?_
          refine lv_iconst (v := 1) hx hb dX8_copy_35 (by decide) ?_
          refine lv_isub hx hb dX8_copy_36 ?_
          replace h := ob h; obtain ⟨w_9, hw_9, h⟩ := h
          replace h := ob h; obtain ⟨v_8, hv_8, h⟩ := h
          refine cbvI (As := [.int ((u1 + u3) - 1)]) hx hb hml hts hown hK hP hD hS hG hA (by omega) (by omega) hZ (X := 9) (by decide) rfl (ckE_some hw_9) (sc_X8_holds l dC dI cB cI cJ cZ cS cO b K V fz F cs1 u0 ((u1 + u3) - 1) v_8 hv_8) (cw_X8_X8_holds hts (fr := 0) (Nat.le_of_ble_eq_true rfl) (Nat.le_of_ble_eq_true rfl)) rfl hl.1 (Nat.le_of_ble_eq_true rfl) ⟨by show kK cs1 - kK cs ≤ kK cs9 - kK cs; omega, by show kM cs1 - kM cs ≤ kM cs9 - kM cs; omega⟩ dX8_copy_37 (fun H locs hP hD hG hgz hS => ?_)
          refine lv_if_eq (tgt := 83) hx hb dX8_copy_40 (by decide) (fun c_10 => ?_) (fun c_10 => ?_)
          · skip
            replace h := (if_pos c_10).symm.trans h
            refine W_cnt (c2 := kK cs1 - kK cs) (n2 := kM cs1 - kM cs) (by omega) (by omega) ?_
            exact B_83 cs1 h (by omega) (by omega) _ _ _ _ hP hD hG (by omega) hS (lv_sub hl [] rfl)
          · skip
            replace h := (if_neg c_10).symm.trans h
            refine lv_aload_n hx hb dX8_copy_43 rfl (lv_at hl 0 rfl) ?_
            refine lv_iload_n hx hb dX8_copy_44 rfl (lv_at hl 2 rfl) ?_
            refine lv_iload_n hx hb dX8_copy_45 rfl (lv_at hl 3 rfl) ?_
            refine lv_iadd hx hb dX8_copy_46 ?_
            refine lv_iconst (v := 1) hx hb dX8_copy_47 (by decide) ?_
            refine lv_isub hx hb dX8_copy_48 ?_
            replace h := ob h; obtain ⟨w_12, hw_12, h⟩ := h
            replace h := ob h; obtain ⟨v_11, hv_11, h⟩ := h
            refine cbvI (As := [.int ((u2 + u3) - 1)]) hx hb hml hts hown hK hP hD hS hG hA (by omega) (by omega) hZ (X := 9) (by decide) rfl (ckE_some hw_12) (sc_X8_holds l dC dI cB cI cJ cZ cS cO b K V fz F cs1 u0 ((u2 + u3) - 1) v_11 hv_11) (cw_X8_X8_holds hts (fr := 0) (Nat.le_of_ble_eq_true rfl) (Nat.le_of_ble_eq_true rfl)) rfl hl.1 (Nat.le_of_ble_eq_true rfl) ⟨by show kK cs1 - kK cs ≤ kK cs9 - kK cs; omega, by show kM cs1 - kM cs ≤ kM cs9 - kM cs; omega⟩ dX8_copy_49 (fun H locs hP hD hG hgz hS => ?_)
            refine lv_if_eq (tgt := 83) hx hb dX8_copy_52 (by decide) (fun c_13 => ?_) (fun c_13 => ?_)
            · skip
              replace h := (if_pos c_13).symm.trans h
              refine W_cnt (c2 := kK cs1 - kK cs) (n2 := kM cs1 - kM cs) (by omega) (by omega) ?_
              exact B_83 cs1 h (by omega) (by omega) _ _ _ _ hP hD hG (by omega) hS (lv_sub hl [] rfl)
            · skip
              replace h := (if_neg c_13).symm.trans h
              refine lv_aload_n hx hb dX8_copy_55 rfl (lv_at hl 0 rfl) ?_
              replace h := ob h; obtain ⟨v_14, hv_14, h⟩ := h
              refine fg_X8_11 hx hb hts hown hK hP hv_14 dX8_copy_56 ?_
              refine lv_iload_n hx hb dX8_copy_59 rfl (lv_at hl 1 rfl) ?_
              refine lv_aload_n hx hb dX8_copy_60 rfl (lv_at hl 0 rfl) ?_
              replace h := ob h; obtain ⟨v_15, hv_15, h⟩ := h
              refine fg_X8_11 hx hb hts hown hK hP hv_15 dX8_copy_61 ?_
              refine lv_iload_n hx hb dX8_copy_64 rfl (lv_at hl 2 rfl) ?_
              refine lv_iload_n hx hb dX8_copy_65 rfl (lv_at hl 3 rfl) ?_
              replace h := ob h; obtain ⟨cs_16, hv_16, h⟩ := h
              obtain ⟨qk_16, qm_16⟩ := cpB_k hv_16
              refine acp2 hx hb (hml.trans hl.1.symm) hown (hts _ (List.mem_cons_of_mem _ kw_1363)) (hts _ (List.mem_cons_of_mem _ kw_820)) (hts _ (List.mem_cons_of_mem _ kw_819)) (hts _ (List.mem_cons_of_mem _ kw_202)) hK hP hD hS rfl rfl hv_16 (Nat.le_of_ble_eq_true rfl) (Nat.le_of_ble_eq_true rfl) dX8_copy_66 (fun H locs hP hD hS => ?_)
              refine lv_aload_n hx hb dX8_copy_69 rfl (lv_at hl 0 rfl) ?_
              replace h := ob h; obtain ⟨v_17, hv_17, h⟩ := h
              refine fg_X8_15 hx hb hts hown hK hP hv_17 dX8_copy_70 ?_
              refine lv_iload_n hx hb dX8_copy_73 rfl (lv_at hl 1 rfl) ?_
              refine lv_aload_n hx hb dX8_copy_74 rfl (lv_at hl 0 rfl) ?_
              replace h := ob h; obtain ⟨v_18, hv_18, h⟩ := h
              refine fg_X8_15 hx hb hts hown hK hP hv_18 dX8_copy_75 ?_
              refine lv_iload_n hx hb dX8_copy_78 rfl (lv_at hl 2 rfl) ?_
              refine lv_iload_n hx hb dX8_copy_79 rfl (lv_at hl 3 rfl) ?_
              replace h := ob h; obtain ⟨cs_19, hv_19, h⟩ := h
              obtain ⟨qk_19, qm_19⟩ := cpA_k hv_19
              refine acp1 hx hb (hml.trans hl.1.symm) hown (hts _ (List.mem_cons_of_mem _ kw_1363)) (hts _ (List.mem_cons_of_mem _ kw_820)) (hts _ (List.mem_cons_of_mem _ kw_819)) (hts _ (List.mem_cons_of_mem _ kw_202)) hK hP hD hS rfl rfl hv_19 (Nat.le_of_ble_eq_true rfl) (Nat.le_of_ble_eq_true rfl) dX8_copy_80 (fun H locs hP hD hS => ?_)
              refine W_cnt (c2 := kK cs_19 - kK cs) (n2 := kM cs_19 - kM cs) (by omega) (by omega) ?_
              exact B_83 cs_19 h (by omega) (by omega) _ _ _ _ hP hD hG (by omega) hS (lv_sub hl [] rfl)
  have h := hf
  unfold c_X8_copy at h
  refine W_cnt (c2 := kK cs - kK cs) (n2 := kM cs - kM cs) (by omega) (by omega) ?_
  refine lv_aload_n hx hb dX8_copy_0 rfl (lv_at hl 0 rfl) ?_
  refine lv_iload_n hx hb dX8_copy_1 rfl (lv_at hl 1 rfl) ?_
  refine lv_iload_n hx hb dX8_copy_2 rfl (lv_at hl 2 rfl) ?_
  refine va_mmax (x := x1) (y := x2) hx hb (hml.trans hl.1.symm) hown (hts _ (List.mem_cons_of_mem _ kw_1412)) (hts _ (List.mem_cons_of_mem _ kw_369)) (hts _ (List.mem_cons_of_mem _ kw_190)) (hts _ (List.mem_cons_of_mem _ kc_max)) (Nat.le_of_ble_eq_true rfl) (Nat.le_of_ble_eq_true rfl) (by show kK cs - kK cs ≤ kK cs9 - kK cs; omega) (by show kM cs - kM cs ≤ kM cs9 - kM cs; omega) dX8_copy_3 ?_
  refine lv_iload_n hx hb dX8_copy_6 rfl (lv_at hl 3 rfl) ?_
  refine lv_iadd hx hb dX8_copy_7 ?_
  replace h := ob h; obtain ⟨w_21, hw_21, h⟩ := h
  replace h := ob h; obtain ⟨cs_20, hv_20, h⟩ := h
  obtain ⟨qk_20, qm_20⟩ := mo_c_X8_reserve F cs x0 ((if x1 < x2 then x2 else x1) + x3) cs_20 hv_20
  obtain ⟨k9_20, m9_20⟩ := mo_c_X8_copy_b11 F cs_20 x0 x1 x2 x3 cs9 h
  refine cavV (As := [.int ((if x1 < x2 then x2 else x1) + x3)]) hx hb hml hts hown hK hP hD hS hG hA (by omega) (by omega) hZ (X := 9) (by decide) rfl (ckE_some hw_21) (sa_X8_reserve l dC dI cB cI cJ cZ cS cO b K V fz F cs x0 ((if x1 < x2 then x2 else x1) + x3) cs_20 hv_20) (cw_X8_X8_reserve hts (fr := 3) (Nat.le_of_ble_eq_true rfl) (Nat.le_of_ble_eq_true rfl)) rfl hl.1 (Nat.le_of_ble_eq_true rfl) ⟨by show kK cs - kK cs + (kK cs_20 - kK cs) ≤ kK cs9 - kK cs; omega, by show kM cs - kM cs + (kM cs_20 - kM cs) ≤ kM cs9 - kM cs; omega⟩ dX8_copy_8 (fun H locs hP hD hG hgz hS => ?_)
  refine W_cnt (c2 := kK cs_20 - kK cs) (n2 := kM cs_20 - kM cs) (by omega) (by omega) ?_
  exact B_11 cs_20 x0 x1 x2 x3 h (by omega) (by omega) _ _ _ _ hP hD hG (by omega) hS (lv_sub hl [0, 1, 2, 3] rfl)
theorem dX4_blankOut_0 : decode cX4_blankOut 0 = .ok (.iconst 0, 1) := by decide +kernel
theorem dX4_blankOut_1 : decode cX4_blankOut 1 = .ok (.istore_n 3, 1) := by decide +kernel
theorem dX4_blankOut_2 : decode cX4_blankOut 2 = .ok (.iload_n 3, 1) := by decide +kernel
theorem dX4_blankOut_3 : decode cX4_blankOut 3 = .ok (.iload_n 2, 1) := by decide +kernel
theorem dX4_blankOut_4 : decode cX4_blankOut 4 = .ok (.if_icmp .ge 21, 3) := by decide +kernel
theorem dX4_blankOut_7 : decode cX4_blankOut 7 = .ok (.aload_n 0, 1) := by decide +kernel
theorem dX4_blankOut_8 : decode cX4_blankOut 8 = .ok (.getfield 19, 3) := by decide +kernel
theorem dX4_blankOut_11 : decode cX4_blankOut 11 = .ok (.iload_n 1, 1) := by decide +kernel
theorem dX4_blankOut_12 : decode cX4_blankOut 12 = .ok (.iload_n 3, 1) := by decide +kernel
theorem dX4_blankOut_13 : decode cX4_blankOut 13 = .ok (.iadd, 1) := by decide +kernel
theorem dX4_blankOut_14 : decode cX4_blankOut 14 = .ok (.lconst 0, 1) := by decide +kernel
theorem dX4_blankOut_15 : decode cX4_blankOut 15 = .ok (.iconst 1, 1) := by decide +kernel
theorem dX4_blankOut_16 : decode cX4_blankOut 16 = .ok (.invokevirtual 128, 3) := by decide +kernel
theorem dX4_blankOut_19 : decode cX4_blankOut 19 = .ok (.iinc 3 1, 3) := by decide +kernel
theorem dX4_blankOut_22 : decode cX4_blankOut 22 = .ok (.goto (-20), 3) := by decide +kernel
theorem dX4_blankOut_25 : decode cX4_blankOut 25 = .ok (.return_, 1) := by decide +kernel
def c_X4_blankOut_b19 (F : Nat) (rc2 : CS → Nat → Int32 → Int32 → Int32 → Option CS) (cs1 : CS) (u0 : Nat) (u1 : Int32) (u2 : Int32) (u3 : Int32) : Option CS := rc2 cs1 u0 u1 u2 (u3 + 1)
def c_X4_blankOut_L2 (F : Nat) : Nat → CS → Nat → Int32 → Int32 → Int32 → Option CS
  | 0, _, _, _, _, _ => none
  | lf_2 + 1, cs1, u0, u1, u2, u3 => if u2 ≤ u3 then (some cs1) else (Option.bind (gR cs1 5 162 u0) fun v_2 => Option.bind (v_2) fun i_4 => Option.bind (ckE cs1 9 i_4) fun _ => Option.bind (c_X8_put F cs1 i_4 (u1 + u3) 0 1) fun cs_3 => c_X4_blankOut_b19 F (c_X4_blankOut_L2 F lf_2) cs_3 u0 u1 u2 u3)
def c_X4_blankOut (F : Nat) (cs : CS) (x0 : Nat) (x1 : Int32) (x2 : Int32) : Option CS := c_X4_blankOut_L2 F F cs x0 x1 x2 0
theorem cw_X4_X4_blankOut {R : Room} {s : State} {args : Array Value} {y0 : MethodName} {c0 : ByteArray} {n0 : Nat} {r0 : Option FieldType} (hts : ∀ w ∈ wsOf y0 c0 n0 r0, w.before args s = true) {fr mc ms : Nat} (h1 : fr + 1 ≤ R.frames) (h2 : 8 + (4 + 11) + 60 * fr ≤ R.locals) : CallW R s args RX4 RX4 225 yX4_blankOut cX4_blankOut 4 none (wsOf yX4_blankOut cX4_blankOut 4 none) ({ frames := fr, cells := mc, slots := ms, locals := 60 * fr } : Room) mc ms 2 := cwV 2 hts (gd_all (in_V kw_1452 kw_1454 kw_78 kw_206 kc_X4_blankOut)) rfl rfl rfl (by decide +kernel) ⟨h1, h2⟩
theorem mo_c_X4_blankOut_b19 (F : Nat) (rc2 : CS → Nat → Int32 → Int32 → Int32 → Option CS) (hrc2 : ∀ (cs1 : CS) (u0 : Nat) (u1 : Int32) (u2 : Int32) (u3 : Int32) (cs9 : CS), rc2 cs1 u0 u1 u2 u3 = some cs9 → kK cs1 ≤ kK cs9 ∧ kM cs1 ≤ kM cs9) (cs1 : CS) (u0 : Nat) (u1 : Int32) (u2 : Int32) (u3 : Int32) (cs9 : CS) (h : c_X4_blankOut_b19 F rc2 cs1 u0 u1 u2 u3 = some cs9) : kK cs1 ≤ kK cs9 ∧ kM cs1 ≤ kM cs9 := by
  unfold c_X4_blankOut_b19 at h
  obtain ⟨k9, m9⟩ := hrc2 cs1 u0 u1 u2 (u3 + 1) cs9 h
  exact ⟨by omega, by omega⟩
theorem mo_c_X4_blankOut_L2 (F : Nat) : ∀ (lf_2 : Nat) (cs1 : CS) (u0 : Nat) (u1 : Int32) (u2 : Int32) (u3 : Int32) (cs9 : CS), c_X4_blankOut_L2 F lf_2 cs1 u0 u1 u2 u3 = some cs9 → kK cs1 ≤ kK cs9 ∧ kM cs1 ≤ kM cs9 := by
  intro lf_2
  induction lf_2 with
  | zero => intro cs1 u0 u1 u2 u3 cs9 h; cases (show (none : Option CS) = _ from h)
  | succ lf_2 ih_2 =>
    intro cs1 u0 u1 u2 u3 cs9 h
    rw [c_X4_blankOut_L2] at h
    by_cases c_6 : u2 ≤ u3
    · skip
      replace h := (if_pos c_6).symm.trans h
      have h9 := Option.some.inj h
      have k9 := congrArg kK h9; have m9 := congrArg kM h9; exact ⟨by omega, by omega⟩
    · skip
      replace h := (if_neg c_6).symm.trans h
      replace h := ob h; obtain ⟨v_7, hv_7, h⟩ := h
      replace h := ob h; obtain ⟨i_9, hi_9, h⟩ := h
      subst hi_9
      replace h := ob h; obtain ⟨w_10, hw_10, h⟩ := h
      replace h := ob h; obtain ⟨cs_8, hv_8, h⟩ := h
      obtain ⟨qk_8, qm_8⟩ := mo_c_X8_put F cs1 i_9 (u1 + u3) 0 1 cs_8 hv_8
      obtain ⟨k9, m9⟩ := mo_c_X4_blankOut_b19 F (c_X4_blankOut_L2 F lf_2) ih_2 cs_8 u0 u1 u2 u3 cs9 h
      exact ⟨by omega, by omega⟩
theorem mo_c_X4_blankOut (F : Nat) (cs : CS) (x0 : Nat) (x1 : Int32) (x2 : Int32) (cs9 : CS) (h : c_X4_blankOut F cs x0 x1 x2 = some cs9) : kK cs ≤ kK cs9 ∧ kM cs ≤ kM cs9 := by
  unfold c_X4_blankOut at h
  obtain ⟨k9, m9⟩ := mo_c_X4_blankOut_L2 F F cs x0 x1 x2 0 cs9 h
  exact ⟨by omega, by omega⟩
set_option maxHeartbeats 4000000 in
set_option maxRecDepth 100000 in
theorem sa_X4_blankOut (l : Launch) (dC : Nat → ClassId) (dI : Nat → Nat → Nat) (cB cI cJ cZ cS cO : ClassId) (b : Nat) (K V : Nat → Nat) (fz : Value) (F : Nat) (cs : CS) (x0 : Nat) (x1 : Int32) (x2 : Int32) (cs9 : CS) (hf : c_X4_blankOut F cs x0 x1 x2 = some cs9) : oaV l dC dI cB cI cJ cZ cS cO b K V fz yX4_blankOut (wsOf yX4_blankOut cX4_blankOut 4 none) (5) [.ref (b + x0), .int x1, .int x2] cs cs9 := by
  obtain ⟨kb9, mb9⟩ := mo_c_X4_blankOut F cs x0 x1 x2 cs9 hf
  refine ⟨⟨kb9, mb9⟩, ?_⟩
  refine Met.ofW (cc := cX4_blankOut) (maxL := 4) (ret := none) (by decide) rfl ?_
  intro p e s m args below meth c s₁ B hml hv
  obtain ⟨rfl, hsz, hP, hK, hD0, hZ⟩ := hv
  have hx := B.exec
  have hb := B.bytes
  have hr := B.returns
  have hts := atoms_spec (ws := (wsOf yX4_blankOut cX4_blankOut 4 none)) B.pre
  have hown : s.vm.findClass RX4 = some m.cls := findClass_of_methodNamed B.named
  have hlocks := B.notSynchronized
  have hD := hD0.self (sz := b + kK cs)
  generalize hAe : va_A (cW cB cI cJ cZ cS cO b cs) (b + kK cs) = A at hD hZ ⊢
  have hA : ∀ q : Nat, s.heap.size ≤ q → A q := fun q h => by rw [← hAe]; exact Or.inr (by omega)
  have hS : va_S A s.heap s.heap [] := va_S.rf
  have hG : va_S A s.heap s.heap [] := va_S.rf
  have hgz : s.heap.size = b + kK cs := hsz
  have hl := lv_entry ([.ref (b + x0), .int x1, .int x2]) (n := 4) (Nat.le_of_ble_eq_true rfl)
  rw [lg_entry_eq]
  generalize (lg_sl ([.ref (b + x0), .int x1, .int x2]) ++ List.replicate (4 - (lg_sl ([.ref (b + x0), .int x1, .int x2])).length) Slot.unset).toArray = ls at hl ⊢
  have hl : lv_has ls 4 [(0, .ref (b + x0)), (1, .int x1), (2, .int x2)] := hl
  have L_2 : ∀ (lf_2 : Nat), ∀ (cs1 : CS) (u0 : Nat) (u1 : Int32) (u2 : Int32) (u3 : Int32), c_X4_blankOut_L2 F lf_2 cs1 u0 u1 u2 u3 = some cs9 → kK cs ≤ kK cs1 → kM cs ≤ kM cs1 → ∀ (Gh H : Heap) (locs : List Loc) (ls : Array Slot), va_P (dC, dI) vwCl (cW cB cI cJ cZ cS cO b cs1) H → va_D A (cW cB cI cJ cZ cS cO b cs1) → va_S A s.heap Gh [] → Gh.size = b + kK cs1 → va_S A Gh H locs → lv_has ls 4 [(0, .ref (b + u0)), (1, .int u1), (2, .int u2), (3, .int u3)] → W p l e (headSpec (wsOf yX4_blankOut cX4_blankOut 4 none) ({ frames := 5, cells := kK cs9 - kK cs, slots := kM cs9 - kM cs, locals := 60 * (5) } : Room)).room s m ([.ref (b + x0), .int x1, .int x2] : List Value).toArray below meth c H locs (kK cs1 - kK cs) (kM cs1 - kM cs) (MQ below (va_Qv (fun (_ : Unit) => True) (fun _ t_ => va_P (dC, dI) vwCl (cW cB cI cJ cZ cS cO b cs9) t_.heap ∧ va_D A (cW cB cI cJ cZ cS cO b cs9) ∧ b + kK cs9 ≤ t_.heap.size) A) ([.ref (b + x0), .int x1, .int x2] : List Value).toArray s (kK cs9 - kK cs) (kM cs9 - kM cs) A) (F0 m 2 ls []) := by
    intro lf_2
    induction lf_2 with
    | zero => intro cs1 u0 u1 u2 u3 h; cases (show (none : Option CS) = _ from h)
    | succ lf_2 ih_2 =>
      have B_19 : ∀ (cs1 : CS) (u0 : Nat) (u1 : Int32) (u2 : Int32) (u3 : Int32), c_X4_blankOut_b19 F (c_X4_blankOut_L2 F lf_2) cs1 u0 u1 u2 u3 = some cs9 → kK cs ≤ kK cs1 → kM cs ≤ kM cs1 → ∀ (Gh H : Heap) (locs : List Loc) (ls : Array Slot), va_P (dC, dI) vwCl (cW cB cI cJ cZ cS cO b cs1) H → va_D A (cW cB cI cJ cZ cS cO b cs1) → va_S A s.heap Gh [] → Gh.size = b + kK cs1 → va_S A Gh H locs → lv_has ls 4 [(0, .ref (b + u0)), (1, .int u1), (2, .int u2), (3, .int u3)] → W p l e (headSpec (wsOf yX4_blankOut cX4_blankOut 4 none) ({ frames := 5, cells := kK cs9 - kK cs, slots := kM cs9 - kM cs, locals := 60 * (5) } : Room)).room s m ([.ref (b + x0), .int x1, .int x2] : List Value).toArray below meth c H locs (kK cs1 - kK cs) (kM cs1 - kM cs) (MQ below (va_Qv (fun (_ : Unit) => True) (fun _ t_ => va_P (dC, dI) vwCl (cW cB cI cJ cZ cS cO b cs9) t_.heap ∧ va_D A (cW cB cI cJ cZ cS cO b cs9) ∧ b + kK cs9 ≤ t_.heap.size) A) ([.ref (b + x0), .int x1, .int x2] : List Value).toArray s (kK cs9 - kK cs) (kM cs9 - kM cs) A) (F0 m 19 ls []) := by
        intro cs1 u0 u1 u2 u3 h hmk hmm Gh H locs ls hP hD hG hgz hS hl
        obtain ⟨kb9, mb9⟩ := mo_c_X4_blankOut_b19 F (c_X4_blankOut_L2 F lf_2) (mo_c_X4_blankOut_L2 F lf_2) cs1 u0 u1 u2 u3 cs9 h
        unfold c_X4_blankOut_b19 at h
        refine lv_iinc (v := u3 + 1) (lv' := [(3, .int (u3 + 1)), (0, .ref (b + u0)), (1, .int u1), (2, .int u2)]) hx hb dX4_blankOut_19 hl (k := 3) rfl rfl (by decide) rfl (fun ls hl => ?_)
        refine lv_goto (tgt := 2) hx hb dX4_blankOut_22 (by decide) ?_
        refine W_cnt (c2 := kK cs1 - kK cs) (n2 := kM cs1 - kM cs) (by omega) (by omega) ?_
        exact ih_2 cs1 u0 u1 u2 (u3 + 1) h (by omega) (by omega) _ _ _ _ hP hD hG (by omega) hS (lv_sub hl [1, 2, 3, 0] rfl)
      intro cs1 u0 u1 u2 u3 h hmk hmm Gh H locs ls hP hD hG hgz hS hl
      obtain ⟨kb9, mb9⟩ := mo_c_X4_blankOut_L2 F (lf_2 + 1) cs1 u0 u1 u2 u3 cs9 h
      rw [c_X4_blankOut_L2] at h
      refine lv_iload_n hx hb dX4_blankOut_2 rfl (lv_at hl 3 rfl) ?_
      refine lv_iload_n hx hb dX4_blankOut_3 rfl (lv_at hl 2 rfl) ?_
      refine lv_icmp_ge (tgt := 25) hx hb dX4_blankOut_4 (by decide) (fun c_1 => ?_) (fun c_1 => ?_)
      · skip
        replace h := (if_pos c_1).symm.trans h
        have e1 := Option.some.inj h
        rw [e1] at hP hD
        have e3 := congrArg kK e1
        have e4 := congrArg kM e1
        refine W_cnt (c2 := kK cs9 - kK cs) (n2 := kM cs9 - kM cs) (by omega) (by omega) ?_
        exact W.vret hx hb hr (fun t_ ht hW => ⟨⟨(), rfl, trivial, by rw [ht]; exact hP, hD, by rw [ht]; have := hS.1; omega⟩, (hG.comp hS).F ht⟩) (hG.comp hS).2.2 dX4_blankOut_25
      · skip
        replace h := (if_neg c_1).symm.trans h
        refine lv_aload_n hx hb dX4_blankOut_7 rfl (lv_at hl 0 rfl) ?_
        replace h := ob h; obtain ⟨v_2, hv_2, h⟩ := h
        refine fg_X4_19 hx hb hts hown hK hP hv_2 dX4_blankOut_8 ?_
        refine lv_iload_n hx hb dX4_blankOut_11 rfl (lv_at hl 1 rfl) ?_
        refine lv_iload_n hx hb dX4_blankOut_12 rfl (lv_at hl 3 rfl) ?_
        refine lv_iadd hx hb dX4_blankOut_13 ?_
        refine lv_lconst (v := 0) hx hb dX4_blankOut_14 (by decide) ?_
        refine lv_iconst (v := 1) hx hb dX4_blankOut_15 (by decide) ?_
        replace h := ob h; obtain ⟨i_4, hi_4, h⟩ := h
        subst hi_4
        replace h := ob h; obtain ⟨w_5, hw_5, h⟩ := h
        replace h := ob h; obtain ⟨cs_3, hv_3, h⟩ := h
        obtain ⟨qk_3, qm_3⟩ := mo_c_X8_put F cs1 i_4 (u1 + u3) 0 1 cs_3 hv_3
        obtain ⟨k9_3, m9_3⟩ := mo_c_X4_blankOut_b19 F (c_X4_blankOut_L2 F lf_2) (mo_c_X4_blankOut_L2 F lf_2) cs_3 u0 u1 u2 u3 cs9 h
        refine cavV (As := [.int (u1 + u3), .long 0, .int 1]) hx hb hml hts hown hK hP hD hS hG hA (by omega) (by omega) hZ (X := 9) (by decide) rfl (ckE_some hw_5) (sa_X8_put l dC dI cB cI cJ cZ cS cO b K V fz F cs1 i_4 (u1 + u3) 0 1 cs_3 hv_3) (cw_X4_X8_put hts (fr := 4) (Nat.le_of_ble_eq_true rfl) (Nat.le_of_ble_eq_true rfl)) rfl hl.1 (Nat.le_of_ble_eq_true rfl) ⟨by show kK cs1 - kK cs + (kK cs_3 - kK cs1) ≤ kK cs9 - kK cs; omega, by show kM cs1 - kM cs + (kM cs_3 - kM cs1) ≤ kM cs9 - kM cs; omega⟩ dX4_blankOut_16 (fun H locs hP hD hG hgz hS => ?_)
        refine W_cnt (c2 := kK cs_3 - kK cs) (n2 := kM cs_3 - kM cs) (by omega) (by omega) ?_
        exact B_19 cs_3 u0 u1 u2 u3 h (by omega) (by omega) _ _ _ _ hP hD hG (by omega) hS (lv_sub hl [0, 1, 2, 3] rfl)
  have h := hf
  unfold c_X4_blankOut at h
  refine W_cnt (c2 := kK cs - kK cs) (n2 := kM cs - kM cs) (by omega) (by omega) ?_
  refine lv_iconst (v := 0) hx hb dX4_blankOut_0 (by decide) ?_
  refine lv_istore_n (lv' := [(3, .int 0), (0, .ref (b + x0)), (1, .int x1), (2, .int x2)]) hx hb dX4_blankOut_1 rfl hl (by decide) rfl (fun ls hl => ?_)
  refine W_cnt (c2 := kK cs - kK cs) (n2 := kM cs - kM cs) (by omega) (by omega) ?_
  exact L_2 F cs x0 x1 x2 0 h (by omega) (by omega) _ _ _ _ hP hD hG (by omega) hS (lv_sub hl [1, 2, 3, 0] rfl)
theorem dX4_filter_0 : decode cX4_filter 0 = .ok (.iload_n 1, 1) := by decide +kernel
theorem dX4_filter_1 : decode cX4_filter 1 = .ok (.ifCond .ge 5, 3) := by decide +kernel
theorem dX4_filter_4 : decode cX4_filter 4 = .ok (.iload_n 3, 1) := by decide +kernel
theorem dX4_filter_5 : decode cX4_filter 5 = .ok (.ireturn, 1) := by decide +kernel
theorem dX4_filter_6 : decode cX4_filter 6 = .ok (.iconst 0, 1) := by decide +kernel
theorem dX4_filter_7 : decode cX4_filter 7 = .ok (.istore 5, 2) := by decide +kernel
theorem dX4_filter_9 : decode cX4_filter 9 = .ok (.iconst 0, 1) := by decide +kernel
theorem dX4_filter_10 : decode cX4_filter 10 = .ok (.istore 6, 2) := by decide +kernel
theorem dX4_filter_12 : decode cX4_filter 12 = .ok (.iload 6, 2) := by decide +kernel
theorem dX4_filter_14 : decode cX4_filter 14 = .ok (.iload_n 3, 1) := by decide +kernel
theorem dX4_filter_15 : decode cX4_filter 15 = .ok (.if_icmp .ge 57, 3) := by decide +kernel
theorem dX4_filter_18 : decode cX4_filter 18 = .ok (.aload_n 0, 1) := by decide +kernel
theorem dX4_filter_19 : decode cX4_filter 19 = .ok (.getfield 15, 3) := by decide +kernel
theorem dX4_filter_22 : decode cX4_filter 22 = .ok (.iload_n 1, 1) := by decide +kernel
theorem dX4_filter_23 : decode cX4_filter 23 = .ok (.aload_n 0, 1) := by decide +kernel
theorem dX4_filter_24 : decode cX4_filter 24 = .ok (.getfield 19, 3) := by decide +kernel
theorem dX4_filter_27 : decode cX4_filter 27 = .ok (.iload_n 2, 1) := by decide +kernel
theorem dX4_filter_28 : decode cX4_filter 28 = .ok (.iload 6, 2) := by decide +kernel
theorem dX4_filter_30 : decode cX4_filter 30 = .ok (.iload 4, 2) := by decide +kernel
theorem dX4_filter_32 : decode cX4_filter 32 = .ok (.imul, 1) := by decide +kernel
theorem dX4_filter_33 : decode cX4_filter 33 = .ok (.iadd, 1) := by decide +kernel
theorem dX4_filter_34 : decode cX4_filter 34 = .ok (.invokevirtual 114, 3) := by decide +kernel
theorem dX4_filter_37 : decode cX4_filter 37 = .ok (.ifCond .eq 29, 3) := by decide +kernel
theorem dX4_filter_40 : decode cX4_filter 40 = .ok (.aload_n 0, 1) := by decide +kernel
theorem dX4_filter_41 : decode cX4_filter 41 = .ok (.getfield 19, 3) := by decide +kernel
theorem dX4_filter_44 : decode cX4_filter 44 = .ok (.iload_n 2, 1) := by decide +kernel
theorem dX4_filter_45 : decode cX4_filter 45 = .ok (.iload 6, 2) := by decide +kernel
theorem dX4_filter_47 : decode cX4_filter 47 = .ok (.iload 4, 2) := by decide +kernel
theorem dX4_filter_49 : decode cX4_filter 49 = .ok (.imul, 1) := by decide +kernel
theorem dX4_filter_50 : decode cX4_filter 50 = .ok (.iadd, 1) := by decide +kernel
theorem dX4_filter_51 : decode cX4_filter 51 = .ok (.iload_n 2, 1) := by decide +kernel
theorem dX4_filter_52 : decode cX4_filter 52 = .ok (.iload 5, 2) := by decide +kernel
theorem dX4_filter_54 : decode cX4_filter 54 = .ok (.iload 4, 2) := by decide +kernel
theorem dX4_filter_56 : decode cX4_filter 56 = .ok (.imul, 1) := by decide +kernel
theorem dX4_filter_57 : decode cX4_filter 57 = .ok (.iadd, 1) := by decide +kernel
theorem dX4_filter_58 : decode cX4_filter 58 = .ok (.iload 4, 2) := by decide +kernel
theorem dX4_filter_60 : decode cX4_filter 60 = .ok (.invokevirtual 89, 3) := by decide +kernel
theorem dX4_filter_63 : decode cX4_filter 63 = .ok (.iinc 5 1, 3) := by decide +kernel
theorem dX4_filter_66 : decode cX4_filter 66 = .ok (.iinc 6 1, 3) := by decide +kernel
theorem dX4_filter_69 : decode cX4_filter 69 = .ok (.goto (-57), 3) := by decide +kernel
theorem dX4_filter_72 : decode cX4_filter 72 = .ok (.iload 5, 2) := by decide +kernel
theorem dX4_filter_74 : decode cX4_filter 74 = .ok (.ireturn, 1) := by decide +kernel
def c_X4_filter_b66 (F : Nat) (rc12 : CS → Nat → Int32 → Int32 → Int32 → Int32 → Int32 → Int32 → Option (CS × Int32)) (cs1 : CS) (u0 : Nat) (u1 : Int32) (u2 : Int32) (u3 : Int32) (u4 : Int32) (u5 : Int32) (u6 : Int32) : Option (CS × Int32) := rc12 cs1 u0 u1 u2 u3 u4 u5 (u6 + 1)
def c_X4_filter_b63 (F : Nat) (rc12 : CS → Nat → Int32 → Int32 → Int32 → Int32 → Int32 → Int32 → Option (CS × Int32)) (cs1 : CS) (u0 : Nat) (u1 : Int32) (u2 : Int32) (u3 : Int32) (u4 : Int32) (u5 : Int32) (u6 : Int32) : Option (CS × Int32) := c_X4_filter_b66 F rc12 cs1 u0 u1 u2 u3 u4 (u5 + 1) u6
def c_X4_filter_L12 (F : Nat) : Nat → CS → Nat → Int32 → Int32 → Int32 → Int32 → Int32 → Int32 → Option (CS × Int32)
  | 0, _, _, _, _, _, _, _, _ => none
  | lf_12 + 1, cs1, u0, u1, u2, u3, u4, u5, u6 => if u3 ≤ u6 then (some (cs1, u5)) else (Option.bind (gR cs1 5 161 u0) fun v_2 => Option.bind (gR cs1 5 162 u0) fun v_3 => Option.bind (v_3) fun i_4 => Option.bind (v_2) fun i_6 => Option.bind (ckE cs1 2 i_6) fun _ => Option.bind (c_X1_compute F cs1 i_6 u1 i_4 (u2 + (u6 * u4))) fun z_5 => if z_5.2 = 0 then (c_X4_filter_b66 F (c_X4_filter_L12 F lf_12) z_5.1 u0 u1 u2 u3 u4 u5 u6) else (Option.bind (gR z_5.1 5 162 u0) fun v_9 => Option.bind (v_9) fun i_11 => Option.bind (ckE z_5.1 9 i_11) fun _ => Option.bind (c_X8_copy F z_5.1 i_11 (u2 + (u6 * u4)) (u2 + (u5 * u4)) u4) fun cs_10 => c_X4_filter_b63 F (c_X4_filter_L12 F lf_12) cs_10 u0 u1 u2 u3 u4 u5 u6))
def c_X4_filter (F : Nat) (cs : CS) (x0 : Nat) (x1 : Int32) (x2 : Int32) (x3 : Int32) (x4 : Int32) : Option (CS × Int32) := if 0 ≤ x1 then (c_X4_filter_L12 F F cs x0 x1 x2 x3 x4 0 0) else (some (cs, x3))
theorem cw_X4_X4_filter {R : Room} {s : State} {args : Array Value} {y0 : MethodName} {c0 : ByteArray} {n0 : Nat} {r0 : Option FieldType} (hts : ∀ w ∈ wsOf y0 c0 n0 r0, w.before args s = true) {fr mc ms : Nat} (h1 : fr + 1 ≤ R.frames) (h2 : 8 + (7 + 11) + 60 * fr ≤ R.locals) : CallW R s args RX4 RX4 141 yX4_filter cX4_filter 7 (some .int) (wsOf yX4_filter cX4_filter 7 (some .int)) ({ frames := fr, cells := mc, slots := ms, locals := 60 * fr } : Room) mc ms 4 := cwV 4 hts (gd_all (in_V kw_1461 kw_1463 kw_79 kw_206 kc_X4_filter)) rfl rfl rfl (by decide +kernel) ⟨h1, h2⟩
theorem mo_c_X4_filter_b66 (F : Nat) (rc12 : CS → Nat → Int32 → Int32 → Int32 → Int32 → Int32 → Int32 → Option (CS × Int32)) (hrc12 : ∀ (cs1 : CS) (u0 : Nat) (u1 : Int32) (u2 : Int32) (u3 : Int32) (u4 : Int32) (u5 : Int32) (u6 : Int32) (cs9 : CS) (r9 : Int32), rc12 cs1 u0 u1 u2 u3 u4 u5 u6 = some (cs9, r9) → kK cs1 ≤ kK cs9 ∧ kM cs1 ≤ kM cs9) (cs1 : CS) (u0 : Nat) (u1 : Int32) (u2 : Int32) (u3 : Int32) (u4 : Int32) (u5 : Int32) (u6 : Int32) (cs9 : CS) (r9 : Int32) (h : c_X4_filter_b66 F rc12 cs1 u0 u1 u2 u3 u4 u5 u6 = some (cs9, r9)) : kK cs1 ≤ kK cs9 ∧ kM cs1 ≤ kM cs9 := by
  unfold c_X4_filter_b66 at h
  obtain ⟨k9, m9⟩ := hrc12 cs1 u0 u1 u2 u3 u4 u5 (u6 + 1) cs9 r9 h
  exact ⟨by omega, by omega⟩
theorem mo_c_X4_filter_b63 (F : Nat) (rc12 : CS → Nat → Int32 → Int32 → Int32 → Int32 → Int32 → Int32 → Option (CS × Int32)) (hrc12 : ∀ (cs1 : CS) (u0 : Nat) (u1 : Int32) (u2 : Int32) (u3 : Int32) (u4 : Int32) (u5 : Int32) (u6 : Int32) (cs9 : CS) (r9 : Int32), rc12 cs1 u0 u1 u2 u3 u4 u5 u6 = some (cs9, r9) → kK cs1 ≤ kK cs9 ∧ kM cs1 ≤ kM cs9) (cs1 : CS) (u0 : Nat) (u1 : Int32) (u2 : Int32) (u3 : Int32) (u4 : Int32) (u5 : Int32) (u6 : Int32) (cs9 : CS) (r9 : Int32) (h : c_X4_filter_b63 F rc12 cs1 u0 u1 u2 u3 u4 u5 u6 = some (cs9, r9)) : kK cs1 ≤ kK cs9 ∧ kM cs1 ≤ kM cs9 := by
  unfold c_X4_filter_b63 at h
  obtain ⟨k9, m9⟩ := mo_c_X4_filter_b66 F rc12 hrc12 cs1 u0 u1 u2 u3 u4 (u5 + 1) u6 cs9 r9 h
  exact ⟨by omega, by omega⟩
theorem mo_c_X4_filter_L12 (F : Nat) : ∀ (lf_12 : Nat) (cs1 : CS) (u0 : Nat) (u1 : Int32) (u2 : Int32) (u3 : Int32) (u4 : Int32) (u5 : Int32) (u6 : Int32) (cs9 : CS) (r9 : Int32), c_X4_filter_L12 F lf_12 cs1 u0 u1 u2 u3 u4 u5 u6 = some (cs9, r9) → kK cs1 ≤ kK cs9 ∧ kM cs1 ≤ kM cs9 := by
  intro lf_12
  induction lf_12 with
  | zero => intro cs1 u0 u1 u2 u3 u4 u5 u6 cs9 r9 h; cases (show (none : Option (CS × Int32)) = _ from h)
  | succ lf_12 ih_12 =>
    intro cs1 u0 u1 u2 u3 u4 u5 u6 cs9 r9 h
    rw [c_X4_filter_L12] at h
    by_cases c_13 : u3 ≤ u6
    · skip
      replace h := (if_pos c_13).symm.trans h
      have h9 := (Prod.mk.inj (Option.some.inj h)).1
      have k9 := congrArg kK h9; have m9 := congrArg kM h9; exact ⟨by omega, by omega⟩
    · skip
      replace h := (if_neg c_13).symm.trans h
      replace h := ob h; obtain ⟨v_14, hv_14, h⟩ := h
      replace h := ob h; obtain ⟨v_15, hv_15, h⟩ := h
      replace h := ob h; obtain ⟨i_16, hi_16, h⟩ := h
      subst hi_16
      replace h := ob h; obtain ⟨i_18, hi_18, h⟩ := h
      subst hi_18
      replace h := ob h; obtain ⟨w_19, hw_19, h⟩ := h
      replace h := ob h; obtain ⟨z_17, hv_17, h⟩ := h
      obtain ⟨qk_17, qm_17⟩ := k_of (mo_c_X1_compute F cs1 i_18 u1 i_16 (u2 + (u6 * u4)) z_17.1 z_17.2 hv_17)
      by_cases c_20 : z_17.2 = 0
      · skip
        replace h := (if_pos c_20).symm.trans h
        obtain ⟨k9, m9⟩ := mo_c_X4_filter_b66 F (c_X4_filter_L12 F lf_12) ih_12 z_17.1 u0 u1 u2 u3 u4 u5 u6 cs9 r9 h
        exact ⟨by omega, by omega⟩
      · skip
        replace h := (if_neg c_20).symm.trans h
        replace h := ob h; obtain ⟨v_21, hv_21, h⟩ := h
        replace h := ob h; obtain ⟨i_23, hi_23, h⟩ := h
        subst hi_23
        replace h := ob h; obtain ⟨w_24, hw_24, h⟩ := h
        replace h := ob h; obtain ⟨cs_22, hv_22, h⟩ := h
        obtain ⟨qk_22, qm_22⟩ := mo_c_X8_copy F z_17.1 i_23 (u2 + (u6 * u4)) (u2 + (u5 * u4)) u4 cs_22 hv_22
        obtain ⟨k9, m9⟩ := mo_c_X4_filter_b63 F (c_X4_filter_L12 F lf_12) ih_12 cs_22 u0 u1 u2 u3 u4 u5 u6 cs9 r9 h
        exact ⟨by omega, by omega⟩
theorem mo_c_X4_filter (F : Nat) (cs : CS) (x0 : Nat) (x1 : Int32) (x2 : Int32) (x3 : Int32) (x4 : Int32) (cs9 : CS) (r9 : Int32) (h : c_X4_filter F cs x0 x1 x2 x3 x4 = some (cs9, r9)) : kK cs ≤ kK cs9 ∧ kM cs ≤ kM cs9 := by
  unfold c_X4_filter at h
  by_cases c_13 : 0 ≤ x1
  · skip
    replace h := (if_pos c_13).symm.trans h
    obtain ⟨k9, m9⟩ := mo_c_X4_filter_L12 F F cs x0 x1 x2 x3 x4 0 0 cs9 r9 h
    exact ⟨by omega, by omega⟩
  · skip
    replace h := (if_neg c_13).symm.trans h
    have h9 := (Prod.mk.inj (Option.some.inj h)).1
    have k9 := congrArg kK h9; have m9 := congrArg kM h9; exact ⟨by omega, by omega⟩
set_option maxHeartbeats 4000000 in
set_option maxRecDepth 100000 in
theorem sa_X4_filter (l : Launch) (dC : Nat → ClassId) (dI : Nat → Nat → Nat) (cB cI cJ cZ cS cO : ClassId) (b : Nat) (K V : Nat → Nat) (fz : Value) (F : Nat) (cs : CS) (x0 : Nat) (x1 : Int32) (x2 : Int32) (x3 : Int32) (x4 : Int32) (cs9 : CS) (r9 : Int32) (hf : c_X4_filter F cs x0 x1 x2 x3 x4 = some (cs9, r9)) : oaI l dC dI cB cI cJ cZ cS cO b K V fz yX4_filter (wsOf yX4_filter cX4_filter 7 (some .int)) (5) [.ref (b + x0), .int x1, .int x2, .int x3, .int x4] cs cs9 r9 := by
  obtain ⟨kb9, mb9⟩ := mo_c_X4_filter F cs x0 x1 x2 x3 x4 cs9 r9 hf
  refine ⟨⟨kb9, mb9⟩, ?_⟩
  refine Met.ofW (cc := cX4_filter) (maxL := 7) (ret := (some .int)) (by decide) rfl ?_
  intro p e s m args below meth c s₁ B hml hv
  obtain ⟨rfl, hsz, hP, hK, hD0, hZ⟩ := hv
  have hx := B.exec
  have hb := B.bytes
  have hr := B.returns
  have hts := atoms_spec (ws := (wsOf yX4_filter cX4_filter 7 (some .int))) B.pre
  have hown : s.vm.findClass RX4 = some m.cls := findClass_of_methodNamed B.named
  have hlocks := B.notSynchronized
  have hD := hD0.self (sz := b + kK cs)
  generalize hAe : va_A (cW cB cI cJ cZ cS cO b cs) (b + kK cs) = A at hD hZ ⊢
  have hA : ∀ q : Nat, s.heap.size ≤ q → A q := fun q h => by rw [← hAe]; exact Or.inr (by omega)
  have hS : va_S A s.heap s.heap [] := va_S.rf
  have hG : va_S A s.heap s.heap [] := va_S.rf
  have hgz : s.heap.size = b + kK cs := hsz
  have hl := lv_entry ([.ref (b + x0), .int x1, .int x2, .int x3, .int x4]) (n := 7) (Nat.le_of_ble_eq_true rfl)
  rw [lg_entry_eq]
  generalize (lg_sl ([.ref (b + x0), .int x1, .int x2, .int x3, .int x4]) ++ List.replicate (7 - (lg_sl ([.ref (b + x0), .int x1, .int x2, .int x3, .int x4])).length) Slot.unset).toArray = ls at hl ⊢
  have hl : lv_has ls 7 [(0, .ref (b + x0)), (1, .int x1), (2, .int x2), (3, .int x3), (4, .int x4)] := hl
  have L_12 : ∀ (lf_12 : Nat), ∀ (cs1 : CS) (u0 : Nat) (u1 : Int32) (u2 : Int32) (u3 : Int32) (u4 : Int32) (u5 : Int32) (u6 : Int32), c_X4_filter_L12 F lf_12 cs1 u0 u1 u2 u3 u4 u5 u6 = some (cs9, r9) → kK cs ≤ kK cs1 → kM cs ≤ kM cs1 → ∀ (Gh H : Heap) (locs : List Loc) (ls : Array Slot), va_P (dC, dI) vwCl (cW cB cI cJ cZ cS cO b cs1) H → va_D A (cW cB cI cJ cZ cS cO b cs1) → va_S A s.heap Gh [] → Gh.size = b + kK cs1 → va_S A Gh H locs → lv_has ls 7 [(0, .ref (b + u0)), (1, .int u1), (2, .int u2), (3, .int u3), (4, .int u4), (5, .int u5), (6, .int u6)] → W p l e (headSpec (wsOf yX4_filter cX4_filter 7 (some .int)) ({ frames := 5, cells := kK cs9 - kK cs, slots := kM cs9 - kM cs, locals := 60 * (5) } : Room)).room s m ([.ref (b + x0), .int x1, .int x2, .int x3, .int x4] : List Value).toArray below meth c H locs (kK cs1 - kK cs) (kM cs1 - kM cs) (MQ below (va_Qi (fun (x : Int32) (_ : Unit) => x = r9) (fun _ t_ => va_P (dC, dI) vwCl (cW cB cI cJ cZ cS cO b cs9) t_.heap ∧ va_D A (cW cB cI cJ cZ cS cO b cs9) ∧ b + kK cs9 ≤ t_.heap.size) A) ([.ref (b + x0), .int x1, .int x2, .int x3, .int x4] : List Value).toArray s (kK cs9 - kK cs) (kM cs9 - kM cs) A) (F0 m 12 ls []) := by
    intro lf_12
    induction lf_12 with
    | zero => intro cs1 u0 u1 u2 u3 u4 u5 u6 h; cases (show (none : Option (CS × Int32)) = _ from h)
    | succ lf_12 ih_12 =>
      have B_66 : ∀ (cs1 : CS) (u0 : Nat) (u1 : Int32) (u2 : Int32) (u3 : Int32) (u4 : Int32) (u5 : Int32) (u6 : Int32), c_X4_filter_b66 F (c_X4_filter_L12 F lf_12) cs1 u0 u1 u2 u3 u4 u5 u6 = some (cs9, r9) → kK cs ≤ kK cs1 → kM cs ≤ kM cs1 → ∀ (Gh H : Heap) (locs : List Loc) (ls : Array Slot), va_P (dC, dI) vwCl (cW cB cI cJ cZ cS cO b cs1) H → va_D A (cW cB cI cJ cZ cS cO b cs1) → va_S A s.heap Gh [] → Gh.size = b + kK cs1 → va_S A Gh H locs → lv_has ls 7 [(0, .ref (b + u0)), (1, .int u1), (2, .int u2), (3, .int u3), (4, .int u4), (5, .int u5), (6, .int u6)] → W p l e (headSpec (wsOf yX4_filter cX4_filter 7 (some .int)) ({ frames := 5, cells := kK cs9 - kK cs, slots := kM cs9 - kM cs, locals := 60 * (5) } : Room)).room s m ([.ref (b + x0), .int x1, .int x2, .int x3, .int x4] : List Value).toArray below meth c H locs (kK cs1 - kK cs) (kM cs1 - kM cs) (MQ below (va_Qi (fun (x : Int32) (_ : Unit) => x = r9) (fun _ t_ => va_P (dC, dI) vwCl (cW cB cI cJ cZ cS cO b cs9) t_.heap ∧ va_D A (cW cB cI cJ cZ cS cO b cs9) ∧ b + kK cs9 ≤ t_.heap.size) A) ([.ref (b + x0), .int x1, .int x2, .int x3, .int x4] : List Value).toArray s (kK cs9 - kK cs) (kM cs9 - kM cs) A) (F0 m 66 ls []) := by
        intro cs1 u0 u1 u2 u3 u4 u5 u6 h hmk hmm Gh H locs ls hP hD hG hgz hS hl
        obtain ⟨kb9, mb9⟩ := mo_c_X4_filter_b66 F (c_X4_filter_L12 F lf_12) (mo_c_X4_filter_L12 F lf_12) cs1 u0 u1 u2 u3 u4 u5 u6 cs9 r9 h
        unfold c_X4_filter_b66 at h
        refine lv_iinc (v := u6 + 1) (lv' := [(6, .int (u6 + 1)), (0, .ref (b + u0)), (1, .int u1), (2, .int u2), (3, .int u3), (4, .int u4), (5, .int u5)]) hx hb dX4_filter_66 hl (k := 6) rfl rfl (by decide) rfl (fun ls hl => ?_)
        refine lv_goto (tgt := 12) hx hb dX4_filter_69 (by decide) ?_
        refine W_cnt (c2 := kK cs1 - kK cs) (n2 := kM cs1 - kM cs) (by omega) (by omega) ?_
        exact ih_12 cs1 u0 u1 u2 u3 u4 u5 (u6 + 1) h (by omega) (by omega) _ _ _ _ hP hD hG (by omega) hS (lv_sub hl [1, 2, 3, 4, 5, 6, 0] rfl)
      have B_63 : ∀ (cs1 : CS) (u0 : Nat) (u1 : Int32) (u2 : Int32) (u3 : Int32) (u4 : Int32) (u5 : Int32) (u6 : Int32), c_X4_filter_b63 F (c_X4_filter_L12 F lf_12) cs1 u0 u1 u2 u3 u4 u5 u6 = some (cs9, r9) → kK cs ≤ kK cs1 → kM cs ≤ kM cs1 → ∀ (Gh H : Heap) (locs : List Loc) (ls : Array Slot), va_P (dC, dI) vwCl (cW cB cI cJ cZ cS cO b cs1) H → va_D A (cW cB cI cJ cZ cS cO b cs1) → va_S A s.heap Gh [] → Gh.size = b + kK cs1 → va_S A Gh H locs → lv_has ls 7 [(0, .ref (b + u0)), (1, .int u1), (2, .int u2), (3, .int u3), (4, .int u4), (5, .int u5), (6, .int u6)] → W p l e (headSpec (wsOf yX4_filter cX4_filter 7 (some .int)) ({ frames := 5, cells := kK cs9 - kK cs, slots := kM cs9 - kM cs, locals := 60 * (5) } : Room)).room s m ([.ref (b + x0), .int x1, .int x2, .int x3, .int x4] : List Value).toArray below meth c H locs (kK cs1 - kK cs) (kM cs1 - kM cs) (MQ below (va_Qi (fun (x : Int32) (_ : Unit) => x = r9) (fun _ t_ => va_P (dC, dI) vwCl (cW cB cI cJ cZ cS cO b cs9) t_.heap ∧ va_D A (cW cB cI cJ cZ cS cO b cs9) ∧ b + kK cs9 ≤ t_.heap.size) A) ([.ref (b + x0), .int x1, .int x2, .int x3, .int x4] : List Value).toArray s (kK cs9 - kK cs) (kM cs9 - kM cs) A) (F0 m 63 ls []) := by
        intro cs1 u0 u1 u2 u3 u4 u5 u6 h hmk hmm Gh H locs ls hP hD hG hgz hS hl
        obtain ⟨kb9, mb9⟩ := mo_c_X4_filter_b63 F (c_X4_filter_L12 F lf_12) (mo_c_X4_filter_L12 F lf_12) cs1 u0 u1 u2 u3 u4 u5 u6 cs9 r9 h
        unfold c_X4_filter_b63 at h
        refine lv_iinc (v := u5 + 1) (lv' := [(5, .int (u5 + 1)), (0, .ref (b + u0)), (1, .int u1), (2, .int u2), (3, .int u3), (4, .int u4), (6, .int u6)]) hx hb dX4_filter_63 hl (k := 5) rfl rfl (by decide) rfl (fun ls hl => ?_)
        refine W_cnt (c2 := kK cs1 - kK cs) (n2 := kM cs1 - kM cs) (by omega) (by omega) ?_
        exact B_66 cs1 u0 u1 u2 u3 u4 (u5 + 1) u6 h (by omega) (by omega) _ _ _ _ hP hD hG (by omega) hS (lv_sub hl [1, 2, 3, 4, 5, 0, 6] rfl)
      intro cs1 u0 u1 u2 u3 u4 u5 u6 h hmk hmm Gh H locs ls hP hD hG hgz hS hl
      obtain ⟨kb9, mb9⟩ := mo_c_X4_filter_L12 F (lf_12 + 1) cs1 u0 u1 u2 u3 u4 u5 u6 cs9 r9 h
      rw [c_X4_filter_L12] at h
      refine lv_iload hx hb dX4_filter_12 (lv_at hl 6 rfl) ?_
      refine lv_iload_n hx hb dX4_filter_14 rfl (lv_at hl 3 rfl) ?_
      refine lv_icmp_ge (tgt := 72) hx hb dX4_filter_15 (by decide) (fun c_1 => ?_) (fun c_1 => ?_)
      · skip
        replace h := (if_pos c_1).symm.trans h
        refine lv_iload hx hb dX4_filter_72 (lv_at hl 5 rfl) ?_
        obtain ⟨e1, e2⟩ := Prod.mk.inj (Option.some.inj h)
        rw [e1] at hP hD
        have e3 := congrArg kK e1
        have e4 := congrArg kM e1
        refine W_cnt (c2 := kK cs9 - kK cs) (n2 := kM cs9 - kM cs) (by omega) (by omega) ?_
        exact W.iret (v := u5) hx hb hr (fun t_ ht hW => ⟨⟨u5, (), rfl, e2, by rw [ht]; exact hP, hD, by rw [ht]; have := hS.1; omega⟩, (hG.comp hS).F ht⟩) (hG.comp hS).2.2 dX4_filter_74
      · skip
        replace h := (if_neg c_1).symm.trans h
        refine lv_aload_n hx hb dX4_filter_18 rfl (lv_at hl 0 rfl) ?_
        replace h := ob h; obtain ⟨v_2, hv_2, h⟩ := h
        refine fg_X4_15 hx hb hts hown hK hP hv_2 dX4_filter_19 ?_
        refine lv_iload_n hx hb dX4_filter_22 rfl (lv_at hl 1 rfl) ?_
        refine lv_aload_n hx hb dX4_filter_23 rfl (lv_at hl 0 rfl) ?_
        replace h := ob h; obtain ⟨v_3, hv_3, h⟩ := h
        refine fg_X4_19 hx hb hts hown hK hP hv_3 dX4_filter_24 ?_
        refine lv_iload_n hx hb dX4_filter_27 rfl (lv_at hl 2 rfl) ?_
        refine lv_iload hx hb dX4_filter_28 (lv_at hl 6 rfl) ?_
        refine lv_iload hx hb dX4_filter_30 (lv_at hl 4 rfl) ?_
        refine lv_imul hx hb dX4_filter_32 ?_
        refine lv_iadd hx hb dX4_filter_33 ?_
        replace h := ob h; obtain ⟨i_4, hi_4, h⟩ := h
        subst hi_4
        replace h := ob h; obtain ⟨i_6, hi_6, h⟩ := h
        subst hi_6
        replace h := ob h; obtain ⟨w_7, hw_7, h⟩ := h
        replace h := ob h; obtain ⟨z_5, hv_5, h⟩ := h
        obtain ⟨qk_5, qm_5⟩ := k_of (mo_c_X1_compute F cs1 i_6 u1 i_4 (u2 + (u6 * u4)) z_5.1 z_5.2 hv_5)
        refine cbvI (As := [.int u1, .ref (b + i_4), .int (u2 + (u6 * u4))]) hx hb hml hts hown hK hP hD hS hG hA (by omega) (by omega) hZ (X := 2) (by decide) rfl (ckE_some hw_7) (sc_X1_compute l dC dI cB cI cJ cZ cS cO b K V fz F cs1 i_6 u1 i_4 (u2 + (u6 * u4)) z_5.1 z_5.2 hv_5) (cw_X4_X1_compute hts (fr := 2) (Nat.le_of_ble_eq_true rfl) (Nat.le_of_ble_eq_true rfl)) rfl hl.1 (Nat.le_of_ble_eq_true rfl) ⟨by show kK cs1 - kK cs ≤ kK cs9 - kK cs; omega, by show kM cs1 - kM cs ≤ kM cs9 - kM cs; omega⟩ dX4_filter_34 (fun H locs hP hD hG hgz hS => ?_)
        refine lv_if_eq (tgt := 66) hx hb dX4_filter_37 (by decide) (fun c_8 => ?_) (fun c_8 => ?_)
        · skip
          replace h := (if_pos c_8).symm.trans h
          refine W_cnt (c2 := kK z_5.1 - kK cs) (n2 := kM z_5.1 - kM cs) (by omega) (by omega) ?_
          exact B_66 z_5.1 u0 u1 u2 u3 u4 u5 u6 h (by omega) (by omega) _ _ _ _ hP hD hG (by omega) hS (lv_sub hl [0, 1, 2, 3, 4, 5, 6] rfl)
        · skip
          replace h := (if_neg c_8).symm.trans h
          refine lv_aload_n hx hb dX4_filter_40 rfl (lv_at hl 0 rfl) ?_
          replace h := ob h; obtain ⟨v_9, hv_9, h⟩ := h
          refine fg_X4_19 hx hb hts hown hK hP hv_9 dX4_filter_41 ?_
          refine lv_iload_n hx hb dX4_filter_44 rfl (lv_at hl 2 rfl) ?_
          refine lv_iload hx hb dX4_filter_45 (lv_at hl 6 rfl) ?_
          refine lv_iload hx hb dX4_filter_47 (lv_at hl 4 rfl) ?_
          refine lv_imul hx hb dX4_filter_49 ?_
          refine lv_iadd hx hb dX4_filter_50 ?_
          refine lv_iload_n hx hb dX4_filter_51 rfl (lv_at hl 2 rfl) ?_
          refine lv_iload hx hb dX4_filter_52 (lv_at hl 5 rfl) ?_
          refine lv_iload hx hb dX4_filter_54 (lv_at hl 4 rfl) ?_
          refine lv_imul hx hb dX4_filter_56 ?_
          refine lv_iadd hx hb dX4_filter_57 ?_
          refine lv_iload hx hb dX4_filter_58 (lv_at hl 4 rfl) ?_
          replace h := ob h; obtain ⟨i_11, hi_11, h⟩ := h
          subst hi_11
          replace h := ob h; obtain ⟨w_12, hw_12, h⟩ := h
          replace h := ob h; obtain ⟨cs_10, hv_10, h⟩ := h
          obtain ⟨qk_10, qm_10⟩ := mo_c_X8_copy F z_5.1 i_11 (u2 + (u6 * u4)) (u2 + (u5 * u4)) u4 cs_10 hv_10
          obtain ⟨k9_10, m9_10⟩ := mo_c_X4_filter_b63 F (c_X4_filter_L12 F lf_12) (mo_c_X4_filter_L12 F lf_12) cs_10 u0 u1 u2 u3 u4 u5 u6 cs9 r9 h
          refine cavV (As := [.int (u2 + (u6 * u4)), .int (u2 + (u5 * u4)), .int u4]) hx hb hml hts hown hK hP hD hS hG hA (by omega) (by omega) hZ (X := 9) (by decide) rfl (ckE_some hw_12) (sa_X8_copy l dC dI cB cI cJ cZ cS cO b K V fz F z_5.1 i_11 (u2 + (u6 * u4)) (u2 + (u5 * u4)) u4 cs_10 hv_10) (cw_X4_X8_copy hts (fr := 4) (Nat.le_of_ble_eq_true rfl) (Nat.le_of_ble_eq_true rfl)) rfl hl.1 (Nat.le_of_ble_eq_true rfl) ⟨by show kK cs1 - kK cs + (kK cs_10 - kK z_5.1) ≤ kK cs9 - kK cs; omega, by show kM cs1 - kM cs + (kM cs_10 - kM z_5.1) ≤ kM cs9 - kM cs; omega⟩ dX4_filter_60 (fun H locs hP hD hG hgz hS => ?_)
          refine W_cnt (c2 := kK cs_10 - kK cs) (n2 := kM cs_10 - kM cs) (by omega) (by omega) ?_
          exact B_63 cs_10 u0 u1 u2 u3 u4 u5 u6 h (by omega) (by omega) _ _ _ _ hP hD hG (by omega) hS (lv_sub hl [0, 1, 2, 3, 4, 5, 6] rfl)
  have h := hf
  unfold c_X4_filter at h
  refine W_cnt (c2 := kK cs - kK cs) (n2 := kM cs - kM cs) (by omega) (by omega) ?_
  refine lv_iload_n hx hb dX4_filter_0 rfl (lv_at hl 1 rfl) ?_
  refine lv_if_ge (tgt := 6) hx hb dX4_filter_1 (by decide) (fun c_13 => ?_) (fun c_13 => ?_)
  · skip
    replace h := (if_pos c_13).symm.trans h
    refine lv_iconst (v := 0) hx hb dX4_filter_6 (by decide) ?_
    refine lv_istore (lv' := [(5, .int 0), (0, .ref (b + x0)), (1, .int x1), (2, .int x2), (3, .int x3), (4, .int x4)]) hx hb dX4_filter_7 hl (by decide) rfl (fun ls hl => ?_)
    refine lv_iconst (v := 0) hx hb dX4_filter_9 (by decide) ?_
    refine lv_istore (lv' := [(6, .int 0), (5, .int 0), (0, .ref (b + x0)), (1, .int x1), (2, .int x2), (3, .int x3), (4, .int x4)]) hx hb dX4_filter_10 hl (by decide) rfl (fun ls hl => ?_)
    refine W_cnt (c2 := kK cs - kK cs) (n2 := kM cs - kM cs) (by omega) (by omega) ?_
    exact L_12 F cs x0 x1 x2 x3 x4 0 0 h (by omega) (by omega) _ _ _ _ hP hD hG (by omega) hS (lv_sub hl [2, 3, 4, 5, 6, 1, 0] rfl)
  · skip
    replace h := (if_neg c_13).symm.trans h
    refine lv_iload_n hx hb dX4_filter_4 rfl (lv_at hl 3 rfl) ?_
    obtain ⟨e1, e2⟩ := Prod.mk.inj (Option.some.inj h)
    rw [e1] at hP hD
    have e3 := congrArg kK e1
    have e4 := congrArg kM e1
    refine W_cnt (c2 := kK cs9 - kK cs) (n2 := kM cs9 - kM cs) (by omega) (by omega) ?_
    exact W.iret (v := x3) hx hb hr (fun t_ ht hW => ⟨⟨x3, (), rfl, e2, by rw [ht]; exact hP, hD, by rw [ht]; have := hS.1; omega⟩, (hG.comp hS).F ht⟩) (hG.comp hS).2.2 dX4_filter_5
theorem dX4_computeAll_0 : decode cX4_computeAll 0 = .ok (.iconst 0, 1) := by decide +kernel
theorem dX4_computeAll_1 : decode cX4_computeAll 1 = .ok (.istore 4, 2) := by decide +kernel
theorem dX4_computeAll_3 : decode cX4_computeAll 3 = .ok (.iload 4, 2) := by decide +kernel
theorem dX4_computeAll_5 : decode cX4_computeAll 5 = .ok (.aload_n 1, 1) := by decide +kernel
theorem dX4_computeAll_6 : decode cX4_computeAll 6 = .ok (.getfield 29, 3) := by decide +kernel
theorem dX4_computeAll_9 : decode cX4_computeAll 9 = .ok (.if_icmp .ge 63, 3) := by decide +kernel
theorem dX4_computeAll_12 : decode cX4_computeAll 12 = .ok (.aload_n 1, 1) := by decide +kernel
theorem dX4_computeAll_13 : decode cX4_computeAll 13 = .ok (.iload 4, 2) := by decide +kernel
theorem dX4_computeAll_15 : decode cX4_computeAll 15 = .ok (.invokevirtual 106, 3) := by decide +kernel
theorem dX4_computeAll_18 : decode cX4_computeAll 18 = .ok (.ifCond .eq 54, 3) := by decide +kernel
theorem dX4_computeAll_21 : decode cX4_computeAll 21 = .ok (.aload_n 0, 1) := by decide +kernel
theorem dX4_computeAll_22 : decode cX4_computeAll 22 = .ok (.getfield 15, 3) := by decide +kernel
theorem dX4_computeAll_25 : decode cX4_computeAll 25 = .ok (.aload_n 1, 1) := by decide +kernel
theorem dX4_computeAll_26 : decode cX4_computeAll 26 = .ok (.getfield 110, 3) := by decide +kernel
theorem dX4_computeAll_29 : decode cX4_computeAll 29 = .ok (.iload 4, 2) := by decide +kernel
theorem dX4_computeAll_31 : decode cX4_computeAll 31 = .ok (.iaload, 1) := by decide +kernel
theorem dX4_computeAll_32 : decode cX4_computeAll 32 = .ok (.aload_n 0, 1) := by decide +kernel
theorem dX4_computeAll_33 : decode cX4_computeAll 33 = .ok (.getfield 19, 3) := by decide +kernel
theorem dX4_computeAll_36 : decode cX4_computeAll 36 = .ok (.iload_n 2, 1) := by decide +kernel
theorem dX4_computeAll_37 : decode cX4_computeAll 37 = .ok (.invokevirtual 114, 3) := by decide +kernel
theorem dX4_computeAll_40 : decode cX4_computeAll 40 = .ok (.pop, 1) := by decide +kernel
theorem dX4_computeAll_41 : decode cX4_computeAll 41 = .ok (.aload_n 0, 1) := by decide +kernel
theorem dX4_computeAll_42 : decode cX4_computeAll 42 = .ok (.getfield 19, 3) := by decide +kernel
theorem dX4_computeAll_45 : decode cX4_computeAll 45 = .ok (.iload_n 3, 1) := by decide +kernel
theorem dX4_computeAll_46 : decode cX4_computeAll 46 = .ok (.iload 4, 2) := by decide +kernel
theorem dX4_computeAll_48 : decode cX4_computeAll 48 = .ok (.iadd, 1) := by decide +kernel
theorem dX4_computeAll_49 : decode cX4_computeAll 49 = .ok (.aload_n 0, 1) := by decide +kernel
theorem dX4_computeAll_50 : decode cX4_computeAll 50 = .ok (.getfield 15, 3) := by decide +kernel
theorem dX4_computeAll_53 : decode cX4_computeAll 53 = .ok (.invokevirtual 120, 3) := by decide +kernel
theorem dX4_computeAll_56 : decode cX4_computeAll 56 = .ok (.aload_n 0, 1) := by decide +kernel
theorem dX4_computeAll_57 : decode cX4_computeAll 57 = .ok (.getfield 15, 3) := by decide +kernel
theorem dX4_computeAll_60 : decode cX4_computeAll 60 = .ok (.invokevirtual 124, 3) := by decide +kernel
theorem dX4_computeAll_63 : decode cX4_computeAll 63 = .ok (.invokevirtual 128, 3) := by decide +kernel
theorem dX4_computeAll_66 : decode cX4_computeAll 66 = .ok (.iinc 4 1, 3) := by decide +kernel
theorem dX4_computeAll_69 : decode cX4_computeAll 69 = .ok (.goto (-66), 3) := by decide +kernel
theorem dX4_computeAll_72 : decode cX4_computeAll 72 = .ok (.return_, 1) := by decide +kernel
def c_X4_computeAll_b72 (F : Nat) (cs1 : CS) : Option CS := some cs1
def c_X4_computeAll_b66 (F : Nat) (rc3 : CS → Nat → Nat → Int32 → Int32 → Int32 → Option CS) (cs1 : CS) (u0 : Nat) (u1 : Nat) (u2 : Int32) (u3 : Int32) (u4 : Int32) : Option CS := rc3 cs1 u0 u1 u2 u3 (u4 + 1)
def c_X4_computeAll_L3 (F : Nat) : Nat → CS → Nat → Nat → Int32 → Int32 → Int32 → Option CS
  | 0, _, _, _, _, _, _ => none
  | lf_3 + 1, cs1, u0, u1, u2, u3, u4 => Option.bind (gI cs1 3 96 u1) fun v_1 => if v_1 ≤ u4 then (c_X4_computeAll_b72 F cs1) else (Option.bind (ckE cs1 3 u1) fun _ => Option.bind (c_X2_has F cs1 u1 u4) fun v_3 => if v_3 = 0 then (c_X4_computeAll_b72 F cs1) else (Option.bind (gR cs1 5 161 u0) fun v_6 => Option.bind (gA cs1 3 97 u1) fun v_7 => Option.bind (rA cs1 97 u1 v_7 u4) fun v_8 => Option.bind (gR cs1 5 162 u0) fun v_9 => Option.bind (v_9) fun i_10 => Option.bind (v_6) fun i_12 => Option.bind (ckE cs1 2 i_12) fun _ => Option.bind (c_X1_compute F cs1 i_12 v_8 i_10 u2) fun z_11 => Option.bind (gR z_11.1 5 162 u0) fun v_14 => Option.bind (gR z_11.1 5 161 u0) fun v_15 => Option.bind (v_15) fun i_17 => Option.bind (ckE z_11.1 2 i_17) fun _ => Option.bind (c_X1_resultValue F z_11.1 i_17) fun v_16 => Option.bind (gR z_11.1 5 161 u0) fun v_19 => Option.bind (v_19) fun i_21 => Option.bind (ckE z_11.1 2 i_21) fun _ => Option.bind (c_X1_resultBlank F z_11.1 i_21) fun v_20 => Option.bind (v_14) fun i_24 => Option.bind (ckE z_11.1 9 i_24) fun _ => Option.bind (c_X8_put F z_11.1 i_24 (u3 + u4) v_16 v_20) fun cs_23 => c_X4_computeAll_b66 F (c_X4_computeAll_L3 F lf_3) cs_23 u0 u1 u2 u3 u4))
def c_X4_computeAll (F : Nat) (cs : CS) (x0 : Nat) (x1 : Nat) (x2 : Int32) (x3 : Int32) : Option CS := c_X4_computeAll_L3 F F cs x0 x1 x2 x3 0
theorem cw_X4_X4_computeAll {R : Room} {s : State} {args : Array Value} {y0 : MethodName} {c0 : ByteArray} {n0 : Nat} {r0 : Option FieldType} (hts : ∀ w ∈ wsOf y0 c0 n0 r0, w.before args s = true) {fr mc ms : Nat} (h1 : fr + 1 ≤ R.frames) (h2 : 8 + (5 + 11) + 60 * fr ≤ R.locals) : CallW R s args RX4 RX4 93 yX4_computeAll cX4_computeAll 5 none (wsOf yX4_computeAll cX4_computeAll 5 none) ({ frames := fr, cells := mc, slots := ms, locals := 60 * fr } : Room) mc ms 3 := cwV 3 hts (gd_all (in_V kw_1470 kw_1472 kw_81 kw_206 kc_X4_computeAll)) rfl rfl rfl (by decide +kernel) ⟨h1, h2⟩
theorem mo_c_X4_computeAll_b72 (F : Nat) (cs1 : CS) (cs9 : CS) (h : c_X4_computeAll_b72 F cs1 = some cs9) : kK cs1 ≤ kK cs9 ∧ kM cs1 ≤ kM cs9 := by
  unfold c_X4_computeAll_b72 at h
  have h9 := Option.some.inj h
  have k9 := congrArg kK h9; have m9 := congrArg kM h9; exact ⟨by omega, by omega⟩
theorem mo_c_X4_computeAll_b66 (F : Nat) (rc3 : CS → Nat → Nat → Int32 → Int32 → Int32 → Option CS) (hrc3 : ∀ (cs1 : CS) (u0 : Nat) (u1 : Nat) (u2 : Int32) (u3 : Int32) (u4 : Int32) (cs9 : CS), rc3 cs1 u0 u1 u2 u3 u4 = some cs9 → kK cs1 ≤ kK cs9 ∧ kM cs1 ≤ kM cs9) (cs1 : CS) (u0 : Nat) (u1 : Nat) (u2 : Int32) (u3 : Int32) (u4 : Int32) (cs9 : CS) (h : c_X4_computeAll_b66 F rc3 cs1 u0 u1 u2 u3 u4 = some cs9) : kK cs1 ≤ kK cs9 ∧ kM cs1 ≤ kM cs9 := by
  unfold c_X4_computeAll_b66 at h
  obtain ⟨k9, m9⟩ := hrc3 cs1 u0 u1 u2 u3 (u4 + 1) cs9 h
  exact ⟨by omega, by omega⟩
theorem mo_c_X4_computeAll_L3 (F : Nat) : ∀ (lf_3 : Nat) (cs1 : CS) (u0 : Nat) (u1 : Nat) (u2 : Int32) (u3 : Int32) (u4 : Int32) (cs9 : CS), c_X4_computeAll_L3 F lf_3 cs1 u0 u1 u2 u3 u4 = some cs9 → kK cs1 ≤ kK cs9 ∧ kM cs1 ≤ kM cs9 := by
  intro lf_3
  induction lf_3 with
  | zero => intro cs1 u0 u1 u2 u3 u4 cs9 h; cases (show (none : Option CS) = _ from h)
  | succ lf_3 ih_3 =>
    intro cs1 u0 u1 u2 u3 u4 cs9 h
    rw [c_X4_computeAll_L3] at h
    replace h := ob h; obtain ⟨v_26, hv_26, h⟩ := h
    by_cases c_27 : v_26 ≤ u4
    · skip
      replace h := (if_pos c_27).symm.trans h
      obtain ⟨k9, m9⟩ := mo_c_X4_computeAll_b72 F cs1 cs9 h
      exact ⟨by omega, by omega⟩
    · skip
      replace h := (if_neg c_27).symm.trans h
      replace h := ob h; obtain ⟨w_29, hw_29, h⟩ := h
      replace h := ob h; obtain ⟨v_28, hv_28, h⟩ := h
      by_cases c_30 : v_28 = 0
      · skip
        replace h := (if_pos c_30).symm.trans h
        obtain ⟨k9, m9⟩ := mo_c_X4_computeAll_b72 F cs1 cs9 h
        exact ⟨by omega, by omega⟩
      · skip
        replace h := (if_neg c_30).symm.trans h
        replace h := ob h; obtain ⟨v_31, hv_31, h⟩ := h
        replace h := ob h; obtain ⟨v_32, hv_32, h⟩ := h
        replace h := ob h; obtain ⟨v_33, hv_33, h⟩ := h
        replace h := ob h; obtain ⟨v_34, hv_34, h⟩ := h
        replace h := ob h; obtain ⟨i_35, hi_35, h⟩ := h
        subst hi_35
        replace h := ob h; obtain ⟨i_37, hi_37, h⟩ := h
        subst hi_37
        replace h := ob h; obtain ⟨w_38, hw_38, h⟩ := h
        replace h := ob h; obtain ⟨z_36, hv_36, h⟩ := h
        obtain ⟨qk_36, qm_36⟩ := k_of (mo_c_X1_compute F cs1 i_37 v_33 i_35 u2 z_36.1 z_36.2 hv_36)
        replace h := ob h; obtain ⟨v_39, hv_39, h⟩ := h
        replace h := ob h; obtain ⟨v_40, hv_40, h⟩ := h
        replace h := ob h; obtain ⟨i_42, hi_42, h⟩ := h
        subst hi_42
        replace h := ob h; obtain ⟨w_43, hw_43, h⟩ := h
        replace h := ob h; obtain ⟨v_41, hv_41, h⟩ := h
        replace h := ob h; obtain ⟨v_44, hv_44, h⟩ := h
        replace h := ob h; obtain ⟨i_46, hi_46, h⟩ := h
        subst hi_46
        replace h := ob h; obtain ⟨w_47, hw_47, h⟩ := h
        replace h := ob h; obtain ⟨v_45, hv_45, h⟩ := h
        replace h := ob h; obtain ⟨i_49, hi_49, h⟩ := h
        subst hi_49
        replace h := ob h; obtain ⟨w_50, hw_50, h⟩ := h
        replace h := ob h; obtain ⟨cs_48, hv_48, h⟩ := h
        obtain ⟨qk_48, qm_48⟩ := mo_c_X8_put F z_36.1 i_49 (u3 + u4) v_41 v_45 cs_48 hv_48
        obtain ⟨k9, m9⟩ := mo_c_X4_computeAll_b66 F (c_X4_computeAll_L3 F lf_3) ih_3 cs_48 u0 u1 u2 u3 u4 cs9 h
        exact ⟨by omega, by omega⟩
theorem mo_c_X4_computeAll (F : Nat) (cs : CS) (x0 : Nat) (x1 : Nat) (x2 : Int32) (x3 : Int32) (cs9 : CS) (h : c_X4_computeAll F cs x0 x1 x2 x3 = some cs9) : kK cs ≤ kK cs9 ∧ kM cs ≤ kM cs9 := by
  unfold c_X4_computeAll at h
  obtain ⟨k9, m9⟩ := mo_c_X4_computeAll_L3 F F cs x0 x1 x2 x3 0 cs9 h
  exact ⟨by omega, by omega⟩
set_option maxHeartbeats 4000000 in
set_option maxRecDepth 100000 in
theorem sa_X4_computeAll (l : Launch) (dC : Nat → ClassId) (dI : Nat → Nat → Nat) (cB cI cJ cZ cS cO : ClassId) (b : Nat) (K V : Nat → Nat) (fz : Value) (F : Nat) (cs : CS) (x0 : Nat) (x1 : Nat) (x2 : Int32) (x3 : Int32) (cs9 : CS) (hf : c_X4_computeAll F cs x0 x1 x2 x3 = some cs9) : oaV l dC dI cB cI cJ cZ cS cO b K V fz yX4_computeAll (wsOf yX4_computeAll cX4_computeAll 5 none) (5) [.ref (b + x0), .ref (b + x1), .int x2, .int x3] cs cs9 := by
  obtain ⟨kb9, mb9⟩ := mo_c_X4_computeAll F cs x0 x1 x2 x3 cs9 hf
  refine ⟨⟨kb9, mb9⟩, ?_⟩
  refine Met.ofW (cc := cX4_computeAll) (maxL := 5) (ret := none) (by decide) rfl ?_
  intro p e s m args below meth c s₁ B hml hv
  obtain ⟨rfl, hsz, hP, hK, hD0, hZ⟩ := hv
  have hx := B.exec
  have hb := B.bytes
  have hr := B.returns
  have hts := atoms_spec (ws := (wsOf yX4_computeAll cX4_computeAll 5 none)) B.pre
  have hown : s.vm.findClass RX4 = some m.cls := findClass_of_methodNamed B.named
  have hlocks := B.notSynchronized
  have hD := hD0.self (sz := b + kK cs)
  generalize hAe : va_A (cW cB cI cJ cZ cS cO b cs) (b + kK cs) = A at hD hZ ⊢
  have hA : ∀ q : Nat, s.heap.size ≤ q → A q := fun q h => by rw [← hAe]; exact Or.inr (by omega)
  have hS : va_S A s.heap s.heap [] := va_S.rf
  have hG : va_S A s.heap s.heap [] := va_S.rf
  have hgz : s.heap.size = b + kK cs := hsz
  have hl := lv_entry ([.ref (b + x0), .ref (b + x1), .int x2, .int x3]) (n := 5) (Nat.le_of_ble_eq_true rfl)
  rw [lg_entry_eq]
  generalize (lg_sl ([.ref (b + x0), .ref (b + x1), .int x2, .int x3]) ++ List.replicate (5 - (lg_sl ([.ref (b + x0), .ref (b + x1), .int x2, .int x3])).length) Slot.unset).toArray = ls at hl ⊢
  have hl : lv_has ls 5 [(0, .ref (b + x0)), (1, .ref (b + x1)), (2, .int x2), (3, .int x3)] := hl
  have B_72 : ∀ (cs1 : CS) , c_X4_computeAll_b72 F cs1 = some cs9 → kK cs ≤ kK cs1 → kM cs ≤ kM cs1 → ∀ (Gh H : Heap) (locs : List Loc) (ls : Array Slot), va_P (dC, dI) vwCl (cW cB cI cJ cZ cS cO b cs1) H → va_D A (cW cB cI cJ cZ cS cO b cs1) → va_S A s.heap Gh [] → Gh.size = b + kK cs1 → va_S A Gh H locs → lv_has ls 5 [] → W p l e (headSpec (wsOf yX4_computeAll cX4_computeAll 5 none) ({ frames := 5, cells := kK cs9 - kK cs, slots := kM cs9 - kM cs, locals := 60 * (5) } : Room)).room s m ([.ref (b + x0), .ref (b + x1), .int x2, .int x3] : List Value).toArray below meth c H locs (kK cs1 - kK cs) (kM cs1 - kM cs) (MQ below (va_Qv (fun (_ : Unit) => True) (fun _ t_ => va_P (dC, dI) vwCl (cW cB cI cJ cZ cS cO b cs9) t_.heap ∧ va_D A (cW cB cI cJ cZ cS cO b cs9) ∧ b + kK cs9 ≤ t_.heap.size) A) ([.ref (b + x0), .ref (b + x1), .int x2, .int x3] : List Value).toArray s (kK cs9 - kK cs) (kM cs9 - kM cs) A) (F0 m 72 ls []) := by
    intro cs1  h hmk hmm Gh H locs ls hP hD hG hgz hS hl
    obtain ⟨kb9, mb9⟩ := mo_c_X4_computeAll_b72 F cs1  cs9 h
    unfold c_X4_computeAll_b72 at h
    have e1 := Option.some.inj h
    rw [e1] at hP hD
    have e3 := congrArg kK e1
    have e4 := congrArg kM e1
    refine W_cnt (c2 := kK cs9 - kK cs) (n2 := kM cs9 - kM cs) (by omega) (by omega) ?_
    exact W.vret hx hb hr (fun t_ ht hW => ⟨⟨(), rfl, trivial, by rw [ht]; exact hP, hD, by rw [ht]; have := hS.1; omega⟩, (hG.comp hS).F ht⟩) (hG.comp hS).2.2 dX4_computeAll_72
  have L_3 : ∀ (lf_3 : Nat), ∀ (cs1 : CS) (u0 : Nat) (u1 : Nat) (u2 : Int32) (u3 : Int32) (u4 : Int32), c_X4_computeAll_L3 F lf_3 cs1 u0 u1 u2 u3 u4 = some cs9 → kK cs ≤ kK cs1 → kM cs ≤ kM cs1 → ∀ (Gh H : Heap) (locs : List Loc) (ls : Array Slot), va_P (dC, dI) vwCl (cW cB cI cJ cZ cS cO b cs1) H → va_D A (cW cB cI cJ cZ cS cO b cs1) → va_S A s.heap Gh [] → Gh.size = b + kK cs1 → va_S A Gh H locs → lv_has ls 5 [(0, .ref (b + u0)), (1, .ref (b + u1)), (2, .int u2), (3, .int u3), (4, .int u4)] → W p l e (headSpec (wsOf yX4_computeAll cX4_computeAll 5 none) ({ frames := 5, cells := kK cs9 - kK cs, slots := kM cs9 - kM cs, locals := 60 * (5) } : Room)).room s m ([.ref (b + x0), .ref (b + x1), .int x2, .int x3] : List Value).toArray below meth c H locs (kK cs1 - kK cs) (kM cs1 - kM cs) (MQ below (va_Qv (fun (_ : Unit) => True) (fun _ t_ => va_P (dC, dI) vwCl (cW cB cI cJ cZ cS cO b cs9) t_.heap ∧ va_D A (cW cB cI cJ cZ cS cO b cs9) ∧ b + kK cs9 ≤ t_.heap.size) A) ([.ref (b + x0), .ref (b + x1), .int x2, .int x3] : List Value).toArray s (kK cs9 - kK cs) (kM cs9 - kM cs) A) (F0 m 3 ls []) := by
    intro lf_3
    induction lf_3 with
    | zero => intro cs1 u0 u1 u2 u3 u4 h; cases (show (none : Option CS) = _ from h)
    | succ lf_3 ih_3 =>
      have B_66 : ∀ (cs1 : CS) (u0 : Nat) (u1 : Nat) (u2 : Int32) (u3 : Int32) (u4 : Int32), c_X4_computeAll_b66 F (c_X4_computeAll_L3 F lf_3) cs1 u0 u1 u2 u3 u4 = some cs9 → kK cs ≤ kK cs1 → kM cs ≤ kM cs1 → ∀ (Gh H : Heap) (locs : List Loc) (ls : Array Slot), va_P (dC, dI) vwCl (cW cB cI cJ cZ cS cO b cs1) H → va_D A (cW cB cI cJ cZ cS cO b cs1) → va_S A s.heap Gh [] → Gh.size = b + kK cs1 → va_S A Gh H locs → lv_has ls 5 [(0, .ref (b + u0)), (1, .ref (b + u1)), (2, .int u2), (3, .int u3), (4, .int u4)] → W p l e (headSpec (wsOf yX4_computeAll cX4_computeAll 5 none) ({ frames := 5, cells := kK cs9 - kK cs, slots := kM cs9 - kM cs, locals := 60 * (5) } : Room)).room s m ([.ref (b + x0), .ref (b + x1), .int x2, .int x3] : List Value).toArray below meth c H locs (kK cs1 - kK cs) (kM cs1 - kM cs) (MQ below (va_Qv (fun (_ : Unit) => True) (fun _ t_ => va_P (dC, dI) vwCl (cW cB cI cJ cZ cS cO b cs9) t_.heap ∧ va_D A (cW cB cI cJ cZ cS cO b cs9) ∧ b + kK cs9 ≤ t_.heap.size) A) ([.ref (b + x0), .ref (b + x1), .int x2, .int x3] : List Value).toArray s (kK cs9 - kK cs) (kM cs9 - kM cs) A) (F0 m 66 ls []) := by
        intro cs1 u0 u1 u2 u3 u4 h hmk hmm Gh H locs ls hP hD hG hgz hS hl
        obtain ⟨kb9, mb9⟩ := mo_c_X4_computeAll_b66 F (c_X4_computeAll_L3 F lf_3) (mo_c_X4_computeAll_L3 F lf_3) cs1 u0 u1 u2 u3 u4 cs9 h
        unfold c_X4_computeAll_b66 at h
        refine lv_iinc (v := u4 + 1) (lv' := [(4, .int (u4 + 1)), (0, .ref (b + u0)), (1, .ref (b + u1)), (2, .int u2), (3, .int u3)]) hx hb dX4_computeAll_66 hl (k := 4) rfl rfl (by decide) rfl (fun ls hl => ?_)
        refine lv_goto (tgt := 3) hx hb dX4_computeAll_69 (by decide) ?_
        refine W_cnt (c2 := kK cs1 - kK cs) (n2 := kM cs1 - kM cs) (by omega) (by omega) ?_
        exact ih_3 cs1 u0 u1 u2 u3 (u4 + 1) h (by omega) (by omega) _ _ _ _ hP hD hG (by omega) hS (lv_sub hl [1, 2, 3, 4, 0] rfl)
      intro cs1 u0 u1 u2 u3 u4 h hmk hmm Gh H locs ls hP hD hG hgz hS hl
      obtain ⟨kb9, mb9⟩ := mo_c_X4_computeAll_L3 F (lf_3 + 1) cs1 u0 u1 u2 u3 u4 cs9 h
      rw [c_X4_computeAll_L3] at h
      refine lv_iload hx hb dX4_computeAll_3 (lv_at hl 4 rfl) ?_
      refine lv_aload_n hx hb dX4_computeAll_5 rfl (lv_at hl 1 rfl) ?_
      replace h := ob h; obtain ⟨v_1, hv_1, h⟩ := h
      refine fg_X4_29 hx hb hts hown hK hP hv_1 dX4_computeAll_6 ?_
      refine lv_icmp_ge (tgt := 72) hx hb dX4_computeAll_9 (by decide) (fun c_2 => ?_) (fun c_2 => ?_)
      · skip
        replace h := (if_pos c_2).symm.trans h
        refine W_cnt (c2 := kK cs1 - kK cs) (n2 := kM cs1 - kM cs) (by omega) (by omega) ?_
        exact B_72 cs1 h (by omega) (by omega) _ _ _ _ hP hD hG (by omega) hS (lv_sub hl [] rfl)
      · skip
        replace h := (if_neg c_2).symm.trans h
        refine lv_aload_n hx hb dX4_computeAll_12 rfl (lv_at hl 1 rfl) ?_
        refine lv_iload hx hb dX4_computeAll_13 (lv_at hl 4 rfl) ?_
        replace h := ob h; obtain ⟨w_4, hw_4, h⟩ := h
        replace h := ob h; obtain ⟨v_3, hv_3, h⟩ := h
        refine cbvI (As := [.int u4]) hx hb hml hts hown hK hP hD hS hG hA (by omega) (by omega) hZ (X := 3) (by decide) rfl (ckE_some hw_4) (sc_X2_has l dC dI cB cI cJ cZ cS cO b K V fz F cs1 u1 u4 v_3 hv_3) (cw_X4_X2_has hts (fr := 0) (Nat.le_of_ble_eq_true rfl) (Nat.le_of_ble_eq_true rfl)) rfl hl.1 (Nat.le_of_ble_eq_true rfl) ⟨by show kK cs1 - kK cs ≤ kK cs9 - kK cs; omega, by show kM cs1 - kM cs ≤ kM cs9 - kM cs; omega⟩ dX4_computeAll_15 (fun H locs hP hD hG hgz hS => ?_)
        refine lv_if_eq (tgt := 72) hx hb dX4_computeAll_18 (by decide) (fun c_5 => ?_) (fun c_5 => ?_)
        · skip
          replace h := (if_pos c_5).symm.trans h
          refine W_cnt (c2 := kK cs1 - kK cs) (n2 := kM cs1 - kM cs) (by omega) (by omega) ?_
          exact B_72 cs1 h (by omega) (by omega) _ _ _ _ hP hD hG (by omega) hS (lv_sub hl [] rfl)
        · skip
          replace h := (if_neg c_5).symm.trans h
          refine lv_aload_n hx hb dX4_computeAll_21 rfl (lv_at hl 0 rfl) ?_
          replace h := ob h; obtain ⟨v_6, hv_6, h⟩ := h
          refine fg_X4_15 hx hb hts hown hK hP hv_6 dX4_computeAll_22 ?_
          refine lv_aload_n hx hb dX4_computeAll_25 rfl (lv_at hl 1 rfl) ?_
          replace h := ob h; obtain ⟨v_7, hv_7, h⟩ := h
          refine fg_X4_110 hx hb hts hown hK hP hv_7 dX4_computeAll_26 ?_
          refine lv_iload hx hb dX4_computeAll_29 (lv_at hl 4 rfl) ?_
          replace h := ob h; obtain ⟨v_8, hv_8, h⟩ := h
          refine ald0 hx hb hK hP rfl hv_8 dX4_computeAll_31 ?_
          refine lv_aload_n hx hb dX4_computeAll_32 rfl (lv_at hl 0 rfl) ?_
          replace h := ob h; obtain ⟨v_9, hv_9, h⟩ := h
          refine fg_X4_19 hx hb hts hown hK hP hv_9 dX4_computeAll_33 ?_
          refine lv_iload_n hx hb dX4_computeAll_36 rfl (lv_at hl 2 rfl) ?_
          replace h := ob h; obtain ⟨i_10, hi_10, h⟩ := h
          subst hi_10
          replace h := ob h; obtain ⟨i_12, hi_12, h⟩ := h
          subst hi_12
          replace h := ob h; obtain ⟨w_13, hw_13, h⟩ := h
          replace h := ob h; obtain ⟨z_11, hv_11, h⟩ := h
          obtain ⟨qk_11, qm_11⟩ := k_of (mo_c_X1_compute F cs1 i_12 v_8 i_10 u2 z_11.1 z_11.2 hv_11)
          refine cbvI (As := [.int v_8, .ref (b + i_10), .int u2]) hx hb hml hts hown hK hP hD hS hG hA (by omega) (by omega) hZ (X := 2) (by decide) rfl (ckE_some hw_13) (sc_X1_compute l dC dI cB cI cJ cZ cS cO b K V fz F cs1 i_12 v_8 i_10 u2 z_11.1 z_11.2 hv_11) (cw_X4_X1_compute hts (fr := 2) (Nat.le_of_ble_eq_true rfl) (Nat.le_of_ble_eq_true rfl)) rfl hl.1 (Nat.le_of_ble_eq_true rfl) ⟨by show kK cs1 - kK cs ≤ kK cs9 - kK cs; omega, by show kM cs1 - kM cs ≤ kM cs9 - kM cs; omega⟩ dX4_computeAll_37 (fun H locs hP hD hG hgz hS => ?_)
          refine lv_pop hx hb dX4_computeAll_40 rfl ?_
          refine lv_aload_n hx hb dX4_computeAll_41 rfl (lv_at hl 0 rfl) ?_
          replace h := ob h; obtain ⟨v_14, hv_14, h⟩ := h
          refine fg_X4_19 hx hb hts hown hK hP hv_14 dX4_computeAll_42 ?_
          refine lv_iload_n hx hb dX4_computeAll_45 rfl (lv_at hl 3 rfl) ?_
          refine lv_iload hx hb dX4_computeAll_46 (lv_at hl 4 rfl) ?_
          refine lv_iadd hx hb dX4_computeAll_48 ?_
          refine lv_aload_n hx hb dX4_computeAll_49 rfl (lv_at hl 0 rfl) ?_
          replace h := ob h; obtain ⟨v_15, hv_15, h⟩ := h
          refine fg_X4_15 hx hb hts hown hK hP hv_15 dX4_computeAll_50 ?_
          replace h := ob h; obtain ⟨i_17, hi_17, h⟩ := h
          subst hi_17
          replace h := ob h; obtain ⟨w_18, hw_18, h⟩ := h
          replace h := ob h; obtain ⟨v_16, hv_16, h⟩ := h
          refine cbvL (As := []) hx hb hml hts hown hK hP hD hS hG hA (by omega) (by omega) hZ (X := 2) (by decide) rfl (ckE_some hw_18) (sc_X1_resultValue l dC dI cB cI cJ cZ cS cO b K V fz F z_11.1 i_17 v_16 hv_16) (cw_X4_X1_resultValue hts (fr := 0) (Nat.le_of_ble_eq_true rfl) (Nat.le_of_ble_eq_true rfl)) rfl hl.1 (by simp only [List.map, List.sum_cons, List.sum_nil, rv_cat]; exact Nat.le_of_ble_eq_true rfl) ⟨by show kK cs1 - kK cs ≤ kK cs9 - kK cs; omega, by show kM cs1 - kM cs ≤ kM cs9 - kM cs; omega⟩ dX4_computeAll_53 (fun H locs hP hD hG hgz hS => ?_)
          refine lv_aload_n hx hb dX4_computeAll_56 rfl (lv_at hl 0 rfl) ?_
          replace h := ob h; obtain ⟨v_19, hv_19, h⟩ := h
          refine fg_X4_15 hx hb hts hown hK hP hv_19 dX4_computeAll_57 ?_
          replace h := ob h; obtain ⟨i_21, hi_21, h⟩ := h
          subst hi_21
          replace h := ob h; obtain ⟨w_22, hw_22, h⟩ := h
          replace h := ob h; obtain ⟨v_20, hv_20, h⟩ := h
          refine cbvI (As := []) hx hb hml hts hown hK hP hD hS hG hA (by omega) (by omega) hZ (X := 2) (by decide) rfl (ckE_some hw_22) (sc_X1_resultBlank l dC dI cB cI cJ cZ cS cO b K V fz F z_11.1 i_21 v_20 hv_20) (cw_X4_X1_resultBlank hts (fr := 0) (Nat.le_of_ble_eq_true rfl) (Nat.le_of_ble_eq_true rfl)) rfl hl.1 (by simp only [List.map, List.sum_cons, List.sum_nil, rv_cat]; exact Nat.le_of_ble_eq_true rfl) ⟨by show kK cs1 - kK cs ≤ kK cs9 - kK cs; omega, by show kM cs1 - kM cs ≤ kM cs9 - kM cs; omega⟩ dX4_computeAll_60 (fun H locs hP hD hG hgz hS => ?_)
          replace h := ob h; obtain ⟨i_24, hi_24, h⟩ := h
          subst hi_24
          replace h := ob h; obtain ⟨w_25, hw_25, h⟩ := h
          replace h := ob h; obtain ⟨cs_23, hv_23, h⟩ := h
          obtain ⟨qk_23, qm_23⟩ := mo_c_X8_put F z_11.1 i_24 (u3 + u4) v_16 v_20 cs_23 hv_23
          obtain ⟨k9_23, m9_23⟩ := mo_c_X4_computeAll_b66 F (c_X4_computeAll_L3 F lf_3) (mo_c_X4_computeAll_L3 F lf_3) cs_23 u0 u1 u2 u3 u4 cs9 h
          refine cavV (As := [.int (u3 + u4), .long v_16, .int v_20]) hx hb hml hts hown hK hP hD hS hG hA (by omega) (by omega) hZ (X := 9) (by decide) rfl (ckE_some hw_25) (sa_X8_put l dC dI cB cI cJ cZ cS cO b K V fz F z_11.1 i_24 (u3 + u4) v_16 v_20 cs_23 hv_23) (cw_X4_X8_put hts (fr := 4) (Nat.le_of_ble_eq_true rfl) (Nat.le_of_ble_eq_true rfl)) rfl hl.1 (Nat.le_of_ble_eq_true rfl) ⟨by show kK cs1 - kK cs + (kK cs_23 - kK z_11.1) ≤ kK cs9 - kK cs; omega, by show kM cs1 - kM cs + (kM cs_23 - kM z_11.1) ≤ kM cs9 - kM cs; omega⟩ dX4_computeAll_63 (fun H locs hP hD hG hgz hS => ?_)
          refine W_cnt (c2 := kK cs_23 - kK cs) (n2 := kM cs_23 - kM cs) (by omega) (by omega) ?_
          exact B_66 cs_23 u0 u1 u2 u3 u4 h (by omega) (by omega) _ _ _ _ hP hD hG (by omega) hS (lv_sub hl [0, 1, 2, 3, 4] rfl)
  have h := hf
  unfold c_X4_computeAll at h
  refine W_cnt (c2 := kK cs - kK cs) (n2 := kM cs - kM cs) (by omega) (by omega) ?_
  refine lv_iconst (v := 0) hx hb dX4_computeAll_0 (by decide) ?_
  refine lv_istore (lv' := [(4, .int 0), (0, .ref (b + x0)), (1, .ref (b + x1)), (2, .int x2), (3, .int x3)]) hx hb dX4_computeAll_1 hl (by decide) rfl (fun ls hl => ?_)
  refine W_cnt (c2 := kK cs - kK cs) (n2 := kM cs - kM cs) (by omega) (by omega) ?_
  exact L_3 F cs x0 x1 x2 x3 0 h (by omega) (by omega) _ _ _ _ hP hD hG (by omega) hS (lv_sub hl [1, 2, 3, 4, 0] rfl)
theorem dX4_computeInsides_0 : decode cX4_computeInsides 0 = .ok (.iconst 0, 1) := by decide +kernel
theorem dX4_computeInsides_1 : decode cX4_computeInsides 1 = .ok (.istore 4, 2) := by decide +kernel
theorem dX4_computeInsides_3 : decode cX4_computeInsides 3 = .ok (.iload 4, 2) := by decide +kernel
theorem dX4_computeInsides_5 : decode cX4_computeInsides 5 = .ok (.aload_n 1, 1) := by decide +kernel
theorem dX4_computeInsides_6 : decode cX4_computeInsides 6 = .ok (.getfield 156, 3) := by decide +kernel
theorem dX4_computeInsides_9 : decode cX4_computeInsides 9 = .ok (.if_icmp .ge 113, 3) := by decide +kernel
theorem dX4_computeInsides_12 : decode cX4_computeInsides 12 = .ok (.iload 4, 2) := by decide +kernel
theorem dX4_computeInsides_14 : decode cX4_computeInsides 14 = .ok (.aload_n 1, 1) := by decide +kernel
theorem dX4_computeInsides_15 : decode cX4_computeInsides 15 = .ok (.getfield 244, 3) := by decide +kernel
theorem dX4_computeInsides_18 : decode cX4_computeInsides 18 = .ok (.arraylength, 1) := by decide +kernel
theorem dX4_computeInsides_19 : decode cX4_computeInsides 19 = .ok (.if_icmp .ge 103, 3) := by decide +kernel
theorem dX4_computeInsides_22 : decode cX4_computeInsides 22 = .ok (.aload_n 1, 1) := by decide +kernel
theorem dX4_computeInsides_23 : decode cX4_computeInsides 23 = .ok (.getfield 244, 3) := by decide +kernel
theorem dX4_computeInsides_26 : decode cX4_computeInsides 26 = .ok (.iload 4, 2) := by decide +kernel
theorem dX4_computeInsides_28 : decode cX4_computeInsides 28 = .ok (.iaload, 1) := by decide +kernel
theorem dX4_computeInsides_29 : decode cX4_computeInsides 29 = .ok (.istore 5, 2) := by decide +kernel
theorem dX4_computeInsides_31 : decode cX4_computeInsides 31 = .ok (.aload_n 0, 1) := by decide +kernel
theorem dX4_computeInsides_32 : decode cX4_computeInsides 32 = .ok (.getfield 15, 3) := by decide +kernel
theorem dX4_computeInsides_35 : decode cX4_computeInsides 35 = .ok (.iload 5, 2) := by decide +kernel
theorem dX4_computeInsides_37 : decode cX4_computeInsides 37 = .ok (.invokevirtual 247, 3) := by decide +kernel
theorem dX4_computeInsides_40 : decode cX4_computeInsides 40 = .ok (.ifCond .eq 34, 3) := by decide +kernel
theorem dX4_computeInsides_43 : decode cX4_computeInsides 43 = .ok (.aload_n 0, 1) := by decide +kernel
theorem dX4_computeInsides_44 : decode cX4_computeInsides 44 = .ok (.getfield 15, 3) := by decide +kernel
theorem dX4_computeInsides_47 : decode cX4_computeInsides 47 = .ok (.getfield 248, 3) := by decide +kernel
theorem dX4_computeInsides_50 : decode cX4_computeInsides 50 = .ok (.iload 5, 2) := by decide +kernel
theorem dX4_computeInsides_52 : decode cX4_computeInsides 52 = .ok (.iaload, 1) := by decide +kernel
theorem dX4_computeInsides_53 : decode cX4_computeInsides 53 = .ok (.bipush 61, 2) := by decide +kernel
theorem dX4_computeInsides_55 : decode cX4_computeInsides 55 = .ok (.if_icmp .ne 19, 3) := by decide +kernel
theorem dX4_computeInsides_58 : decode cX4_computeInsides 58 = .ok (.aload_n 0, 1) := by decide +kernel
theorem dX4_computeInsides_59 : decode cX4_computeInsides 59 = .ok (.getfield 19, 3) := by decide +kernel
theorem dX4_computeInsides_62 : decode cX4_computeInsides 62 = .ok (.iload_n 3, 1) := by decide +kernel
theorem dX4_computeInsides_63 : decode cX4_computeInsides 63 = .ok (.iload 4, 2) := by decide +kernel
theorem dX4_computeInsides_65 : decode cX4_computeInsides 65 = .ok (.iadd, 1) := by decide +kernel
theorem dX4_computeInsides_66 : decode cX4_computeInsides 66 = .ok (.lconst 1, 1) := by decide +kernel
theorem dX4_computeInsides_67 : decode cX4_computeInsides 67 = .ok (.iconst 0, 1) := by decide +kernel
theorem dX4_computeInsides_68 : decode cX4_computeInsides 68 = .ok (.invokevirtual 128, 3) := by decide +kernel
theorem dX4_computeInsides_71 : decode cX4_computeInsides 71 = .ok (.goto 45, 3) := by decide +kernel
theorem dX4_computeInsides_74 : decode cX4_computeInsides 74 = .ok (.aload_n 0, 1) := by decide +kernel
theorem dX4_computeInsides_75 : decode cX4_computeInsides 75 = .ok (.getfield 15, 3) := by decide +kernel
theorem dX4_computeInsides_78 : decode cX4_computeInsides 78 = .ok (.iload 5, 2) := by decide +kernel
theorem dX4_computeInsides_80 : decode cX4_computeInsides 80 = .ok (.iconst 1, 1) := by decide +kernel
theorem dX4_computeInsides_81 : decode cX4_computeInsides 81 = .ok (.isub, 1) := by decide +kernel
theorem dX4_computeInsides_82 : decode cX4_computeInsides 82 = .ok (.aload_n 0, 1) := by decide +kernel
theorem dX4_computeInsides_83 : decode cX4_computeInsides 83 = .ok (.getfield 19, 3) := by decide +kernel
theorem dX4_computeInsides_86 : decode cX4_computeInsides 86 = .ok (.iload_n 2, 1) := by decide +kernel
theorem dX4_computeInsides_87 : decode cX4_computeInsides 87 = .ok (.invokevirtual 114, 3) := by decide +kernel
theorem dX4_computeInsides_90 : decode cX4_computeInsides 90 = .ok (.pop, 1) := by decide +kernel
theorem dX4_computeInsides_91 : decode cX4_computeInsides 91 = .ok (.aload_n 0, 1) := by decide +kernel
theorem dX4_computeInsides_92 : decode cX4_computeInsides 92 = .ok (.getfield 19, 3) := by decide +kernel
theorem dX4_computeInsides_95 : decode cX4_computeInsides 95 = .ok (.iload_n 3, 1) := by decide +kernel
theorem dX4_computeInsides_96 : decode cX4_computeInsides 96 = .ok (.iload 4, 2) := by decide +kernel
theorem dX4_computeInsides_98 : decode cX4_computeInsides 98 = .ok (.iadd, 1) := by decide +kernel
theorem dX4_computeInsides_99 : decode cX4_computeInsides 99 = .ok (.aload_n 0, 1) := by decide +kernel
theorem dX4_computeInsides_100 : decode cX4_computeInsides 100 = .ok (.getfield 15, 3) := by decide +kernel
theorem dX4_computeInsides_103 : decode cX4_computeInsides 103 = .ok (.invokevirtual 120, 3) := by decide +kernel
theorem dX4_computeInsides_106 : decode cX4_computeInsides 106 = .ok (.aload_n 0, 1) := by decide +kernel
theorem dX4_computeInsides_107 : decode cX4_computeInsides 107 = .ok (.getfield 15, 3) := by decide +kernel
theorem dX4_computeInsides_110 : decode cX4_computeInsides 110 = .ok (.invokevirtual 124, 3) := by decide +kernel
theorem dX4_computeInsides_113 : decode cX4_computeInsides 113 = .ok (.invokevirtual 128, 3) := by decide +kernel
theorem dX4_computeInsides_116 : decode cX4_computeInsides 116 = .ok (.iinc 4 1, 3) := by decide +kernel
theorem dX4_computeInsides_119 : decode cX4_computeInsides 119 = .ok (.goto (-116), 3) := by decide +kernel
theorem dX4_computeInsides_122 : decode cX4_computeInsides 122 = .ok (.return_, 1) := by decide +kernel
def c_X4_computeInsides_b122 (F : Nat) (cs1 : CS) : Option CS := some cs1
def c_X4_computeInsides_b116 (F : Nat) (rc3 : CS → Nat → Nat → Int32 → Int32 → Int32 → Option CS) (cs1 : CS) (u0 : Nat) (u1 : Nat) (u2 : Int32) (u3 : Int32) (u4 : Int32) : Option CS := rc3 cs1 u0 u1 u2 u3 (u4 + 1)
def c_X4_computeInsides_b71 (F : Nat) (rc3 : CS → Nat → Nat → Int32 → Int32 → Int32 → Option CS) (cs1 : CS) (u0 : Nat) (u1 : Nat) (u2 : Int32) (u3 : Int32) (u4 : Int32) : Option CS := c_X4_computeInsides_b116 F rc3 cs1 u0 u1 u2 u3 u4
def c_X4_computeInsides_b74 (F : Nat) (rc3 : CS → Nat → Nat → Int32 → Int32 → Int32 → Option CS) (cs1 : CS) (u0 : Nat) (u1 : Nat) (u2 : Int32) (u3 : Int32) (u4 : Int32) (u5 : Int32) : Option CS := Option.bind (gR cs1 5 161 u0) fun v_1 => Option.bind (gR cs1 5 162 u0) fun v_2 => Option.bind (v_2) fun i_3 => Option.bind (v_1) fun i_5 => Option.bind (ckE cs1 2 i_5) fun _ => Option.bind (c_X1_compute F cs1 i_5 (u5 - 1) i_3 u2) fun z_4 => Option.bind (gR z_4.1 5 162 u0) fun v_7 => Option.bind (gR z_4.1 5 161 u0) fun v_8 => Option.bind (v_8) fun i_10 => Option.bind (ckE z_4.1 2 i_10) fun _ => Option.bind (c_X1_resultValue F z_4.1 i_10) fun v_9 => Option.bind (gR z_4.1 5 161 u0) fun v_12 => Option.bind (v_12) fun i_14 => Option.bind (ckE z_4.1 2 i_14) fun _ => Option.bind (c_X1_resultBlank F z_4.1 i_14) fun v_13 => Option.bind (v_7) fun i_17 => Option.bind (ckE z_4.1 9 i_17) fun _ => Option.bind (c_X8_put F z_4.1 i_17 (u3 + u4) v_9 v_13) fun cs_16 => c_X4_computeInsides_b116 F rc3 cs_16 u0 u1 u2 u3 u4
def c_X4_computeInsides_L3 (F : Nat) : Nat → CS → Nat → Nat → Int32 → Int32 → Int32 → Option CS
  | 0, _, _, _, _, _, _ => none
  | lf_3 + 1, cs1, u0, u1, u2, u3, u4 => Option.bind (gI cs1 6 203 u1) fun v_19 => if v_19 ≤ u4 then (c_X4_computeInsides_b122 F cs1) else (Option.bind (gA cs1 6 202 u1) fun v_21 => Option.bind (lnA cs1 202 u1 v_21) fun v_22 => if v_22 ≤ u4 then (c_X4_computeInsides_b122 F cs1) else (Option.bind (gA cs1 6 202 u1) fun v_24 => Option.bind (rA cs1 202 u1 v_24 u4) fun v_25 => Option.bind (gR cs1 5 161 u0) fun v_26 => Option.bind (v_26) fun i_28 => Option.bind (ckE cs1 2 i_28) fun _ => Option.bind (c_X1_has F cs1 i_28 v_25) fun v_27 => if v_27 = 0 then (c_X4_computeInsides_b74 F (c_X4_computeInsides_L3 F lf_3) cs1 u0 u1 u2 u3 u4 v_25) else (Option.bind (gR cs1 5 161 u0) fun v_31 => Option.bind (v_31) fun i_32 => Option.bind (gA cs1 2 65 i_32) fun v_33 => Option.bind (rA cs1 65 i_32 v_33 v_25) fun v_34 => if v_34 = 61 then (Option.bind (gR cs1 5 162 u0) fun v_36 => Option.bind (v_36) fun i_38 => Option.bind (ckE cs1 9 i_38) fun _ => Option.bind (c_X8_put F cs1 i_38 (u3 + u4) 1 0) fun cs_37 => c_X4_computeInsides_b71 F (c_X4_computeInsides_L3 F lf_3) cs_37 u0 u1 u2 u3 u4) else (c_X4_computeInsides_b74 F (c_X4_computeInsides_L3 F lf_3) cs1 u0 u1 u2 u3 u4 v_25))))
def c_X4_computeInsides (F : Nat) (cs : CS) (x0 : Nat) (x1 : Nat) (x2 : Int32) (x3 : Int32) : Option CS := c_X4_computeInsides_L3 F F cs x0 x1 x2 x3 0
theorem cw_X4_X4_computeInsides {R : Room} {s : State} {args : Array Value} {y0 : MethodName} {c0 : ByteArray} {n0 : Nat} {r0 : Option FieldType} (hts : ∀ w ∈ wsOf y0 c0 n0 r0, w.before args s = true) {fr mc ms : Nat} (h1 : fr + 1 ≤ R.frames) (h2 : 8 + (6 + 11) + 60 * fr ≤ R.locals) : CallW R s args RX4 RX4 229 yX4_computeInsides cX4_computeInsides 6 none (wsOf yX4_computeInsides cX4_computeInsides 6 none) ({ frames := fr, cells := mc, slots := ms, locals := 60 * fr } : Room) mc ms 3 := cwV 3 hts (gd_all (in_V kw_1483 kw_1485 kw_82 kw_206 kc_X4_computeInsides)) rfl rfl rfl (by decide +kernel) ⟨h1, h2⟩
theorem mo_c_X4_computeInsides_b122 (F : Nat) (cs1 : CS) (cs9 : CS) (h : c_X4_computeInsides_b122 F cs1 = some cs9) : kK cs1 ≤ kK cs9 ∧ kM cs1 ≤ kM cs9 := by
  unfold c_X4_computeInsides_b122 at h
  have h9 := Option.some.inj h
  have k9 := congrArg kK h9; have m9 := congrArg kM h9; exact ⟨by omega, by omega⟩
theorem mo_c_X4_computeInsides_b116 (F : Nat) (rc3 : CS → Nat → Nat → Int32 → Int32 → Int32 → Option CS) (hrc3 : ∀ (cs1 : CS) (u0 : Nat) (u1 : Nat) (u2 : Int32) (u3 : Int32) (u4 : Int32) (cs9 : CS), rc3 cs1 u0 u1 u2 u3 u4 = some cs9 → kK cs1 ≤ kK cs9 ∧ kM cs1 ≤ kM cs9) (cs1 : CS) (u0 : Nat) (u1 : Nat) (u2 : Int32) (u3 : Int32) (u4 : Int32) (cs9 : CS) (h : c_X4_computeInsides_b116 F rc3 cs1 u0 u1 u2 u3 u4 = some cs9) : kK cs1 ≤ kK cs9 ∧ kM cs1 ≤ kM cs9 := by
  unfold c_X4_computeInsides_b116 at h
  obtain ⟨k9, m9⟩ := hrc3 cs1 u0 u1 u2 u3 (u4 + 1) cs9 h
  exact ⟨by omega, by omega⟩
theorem mo_c_X4_computeInsides_b71 (F : Nat) (rc3 : CS → Nat → Nat → Int32 → Int32 → Int32 → Option CS) (hrc3 : ∀ (cs1 : CS) (u0 : Nat) (u1 : Nat) (u2 : Int32) (u3 : Int32) (u4 : Int32) (cs9 : CS), rc3 cs1 u0 u1 u2 u3 u4 = some cs9 → kK cs1 ≤ kK cs9 ∧ kM cs1 ≤ kM cs9) (cs1 : CS) (u0 : Nat) (u1 : Nat) (u2 : Int32) (u3 : Int32) (u4 : Int32) (cs9 : CS) (h : c_X4_computeInsides_b71 F rc3 cs1 u0 u1 u2 u3 u4 = some cs9) : kK cs1 ≤ kK cs9 ∧ kM cs1 ≤ kM cs9 := by
  unfold c_X4_computeInsides_b71 at h
  obtain ⟨k9, m9⟩ := mo_c_X4_computeInsides_b116 F rc3 hrc3 cs1 u0 u1 u2 u3 u4 cs9 h
  exact ⟨by omega, by omega⟩
theorem mo_c_X4_computeInsides_b74 (F : Nat) (rc3 : CS → Nat → Nat → Int32 → Int32 → Int32 → Option CS) (hrc3 : ∀ (cs1 : CS) (u0 : Nat) (u1 : Nat) (u2 : Int32) (u3 : Int32) (u4 : Int32) (cs9 : CS), rc3 cs1 u0 u1 u2 u3 u4 = some cs9 → kK cs1 ≤ kK cs9 ∧ kM cs1 ≤ kM cs9) (cs1 : CS) (u0 : Nat) (u1 : Nat) (u2 : Int32) (u3 : Int32) (u4 : Int32) (u5 : Int32) (cs9 : CS) (h : c_X4_computeInsides_b74 F rc3 cs1 u0 u1 u2 u3 u4 u5 = some cs9) : kK cs1 ≤ kK cs9 ∧ kM cs1 ≤ kM cs9 := by
  unfold c_X4_computeInsides_b74 at h
  replace h := ob h; obtain ⟨v_40, hv_40, h⟩ := h
  replace h := ob h; obtain ⟨v_41, hv_41, h⟩ := h
  replace h := ob h; obtain ⟨i_42, hi_42, h⟩ := h
  subst hi_42
  replace h := ob h; obtain ⟨i_44, hi_44, h⟩ := h
  subst hi_44
  replace h := ob h; obtain ⟨w_45, hw_45, h⟩ := h
  replace h := ob h; obtain ⟨z_43, hv_43, h⟩ := h
  obtain ⟨qk_43, qm_43⟩ := k_of (mo_c_X1_compute F cs1 i_44 (u5 - 1) i_42 u2 z_43.1 z_43.2 hv_43)
  replace h := ob h; obtain ⟨v_46, hv_46, h⟩ := h
  replace h := ob h; obtain ⟨v_47, hv_47, h⟩ := h
  replace h := ob h; obtain ⟨i_49, hi_49, h⟩ := h
  subst hi_49
  replace h := ob h; obtain ⟨w_50, hw_50, h⟩ := h
  replace h := ob h; obtain ⟨v_48, hv_48, h⟩ := h
  replace h := ob h; obtain ⟨v_51, hv_51, h⟩ := h
  replace h := ob h; obtain ⟨i_53, hi_53, h⟩ := h
  subst hi_53
  replace h := ob h; obtain ⟨w_54, hw_54, h⟩ := h
  replace h := ob h; obtain ⟨v_52, hv_52, h⟩ := h
  replace h := ob h; obtain ⟨i_56, hi_56, h⟩ := h
  subst hi_56
  replace h := ob h; obtain ⟨w_57, hw_57, h⟩ := h
  replace h := ob h; obtain ⟨cs_55, hv_55, h⟩ := h
  obtain ⟨qk_55, qm_55⟩ := mo_c_X8_put F z_43.1 i_56 (u3 + u4) v_48 v_52 cs_55 hv_55
  obtain ⟨k9, m9⟩ := mo_c_X4_computeInsides_b116 F rc3 hrc3 cs_55 u0 u1 u2 u3 u4 cs9 h
  exact ⟨by omega, by omega⟩
theorem mo_c_X4_computeInsides_L3 (F : Nat) : ∀ (lf_3 : Nat) (cs1 : CS) (u0 : Nat) (u1 : Nat) (u2 : Int32) (u3 : Int32) (u4 : Int32) (cs9 : CS), c_X4_computeInsides_L3 F lf_3 cs1 u0 u1 u2 u3 u4 = some cs9 → kK cs1 ≤ kK cs9 ∧ kM cs1 ≤ kM cs9 := by
  intro lf_3
  induction lf_3 with
  | zero => intro cs1 u0 u1 u2 u3 u4 cs9 h; cases (show (none : Option CS) = _ from h)
  | succ lf_3 ih_3 =>
    intro cs1 u0 u1 u2 u3 u4 cs9 h
    rw [c_X4_computeInsides_L3] at h
    replace h := ob h; obtain ⟨v_40, hv_40, h⟩ := h
    by_cases c_41 : v_40 ≤ u4
    · skip
      replace h := (if_pos c_41).symm.trans h
      obtain ⟨k9, m9⟩ := mo_c_X4_computeInsides_b122 F cs1 cs9 h
      exact ⟨by omega, by omega⟩
    · skip
      replace h := (if_neg c_41).symm.trans h
      replace h := ob h; obtain ⟨v_42, hv_42, h⟩ := h
      replace h := ob h; obtain ⟨v_43, hv_43, h⟩ := h
      by_cases c_44 : v_43 ≤ u4
      · skip
        replace h := (if_pos c_44).symm.trans h
        obtain ⟨k9, m9⟩ := mo_c_X4_computeInsides_b122 F cs1 cs9 h
        exact ⟨by omega, by omega⟩
      · skip
        replace h := (if_neg c_44).symm.trans h
        replace h := ob h; obtain ⟨v_45, hv_45, h⟩ := h
        replace h := ob h; obtain ⟨v_46, hv_46, h⟩ := h
        replace h := ob h; obtain ⟨v_47, hv_47, h⟩ := h
        replace h := ob h; obtain ⟨i_49, hi_49, h⟩ := h
        subst hi_49
        replace h := ob h; obtain ⟨w_50, hw_50, h⟩ := h
        replace h := ob h; obtain ⟨v_48, hv_48, h⟩ := h
        by_cases c_51 : v_48 = 0
        · skip
          replace h := (if_pos c_51).symm.trans h
          obtain ⟨k9, m9⟩ := mo_c_X4_computeInsides_b74 F (c_X4_computeInsides_L3 F lf_3) ih_3 cs1 u0 u1 u2 u3 u4 v_46 cs9 h
          exact ⟨by omega, by omega⟩
        · skip
          replace h := (if_neg c_51).symm.trans h
          replace h := ob h; obtain ⟨v_52, hv_52, h⟩ := h
          replace h := ob h; obtain ⟨i_53, hi_53, h⟩ := h
          subst hi_53
          replace h := ob h; obtain ⟨v_54, hv_54, h⟩ := h
          replace h := ob h; obtain ⟨v_55, hv_55, h⟩ := h
          by_cases c_56 : v_55 = 61
          · skip
            replace h := (if_pos c_56).symm.trans h
            replace h := ob h; obtain ⟨v_57, hv_57, h⟩ := h
            replace h := ob h; obtain ⟨i_59, hi_59, h⟩ := h
            subst hi_59
            replace h := ob h; obtain ⟨w_60, hw_60, h⟩ := h
            replace h := ob h; obtain ⟨cs_58, hv_58, h⟩ := h
            obtain ⟨qk_58, qm_58⟩ := mo_c_X8_put F cs1 i_59 (u3 + u4) 1 0 cs_58 hv_58
            obtain ⟨k9, m9⟩ := mo_c_X4_computeInsides_b71 F (c_X4_computeInsides_L3 F lf_3) ih_3 cs_58 u0 u1 u2 u3 u4 cs9 h
            exact ⟨by omega, by omega⟩
          · skip
            replace h := (if_neg c_56).symm.trans h
            obtain ⟨k9, m9⟩ := mo_c_X4_computeInsides_b74 F (c_X4_computeInsides_L3 F lf_3) ih_3 cs1 u0 u1 u2 u3 u4 v_46 cs9 h
            exact ⟨by omega, by omega⟩
theorem mo_c_X4_computeInsides (F : Nat) (cs : CS) (x0 : Nat) (x1 : Nat) (x2 : Int32) (x3 : Int32) (cs9 : CS) (h : c_X4_computeInsides F cs x0 x1 x2 x3 = some cs9) : kK cs ≤ kK cs9 ∧ kM cs ≤ kM cs9 := by
  unfold c_X4_computeInsides at h
  obtain ⟨k9, m9⟩ := mo_c_X4_computeInsides_L3 F F cs x0 x1 x2 x3 0 cs9 h
  exact ⟨by omega, by omega⟩
set_option maxHeartbeats 4000000 in
set_option maxRecDepth 100000 in
theorem sa_X4_computeInsides (l : Launch) (dC : Nat → ClassId) (dI : Nat → Nat → Nat) (cB cI cJ cZ cS cO : ClassId) (b : Nat) (K V : Nat → Nat) (fz : Value) (F : Nat) (cs : CS) (x0 : Nat) (x1 : Nat) (x2 : Int32) (x3 : Int32) (cs9 : CS) (hf : c_X4_computeInsides F cs x0 x1 x2 x3 = some cs9) : oaV l dC dI cB cI cJ cZ cS cO b K V fz yX4_computeInsides (wsOf yX4_computeInsides cX4_computeInsides 6 none) (5) [.ref (b + x0), .ref (b + x1), .int x2, .int x3] cs cs9 := by
  obtain ⟨kb9, mb9⟩ := mo_c_X4_computeInsides F cs x0 x1 x2 x3 cs9 hf
  refine ⟨⟨kb9, mb9⟩, ?_⟩
  refine Met.ofW (cc := cX4_computeInsides) (maxL := 6) (ret := none) (by decide) rfl ?_
  intro p e s m args below meth c s₁ B hml hv
  obtain ⟨rfl, hsz, hP, hK, hD0, hZ⟩ := hv
  have hx := B.exec
  have hb := B.bytes
  have hr := B.returns
  have hts := atoms_spec (ws := (wsOf yX4_computeInsides cX4_computeInsides 6 none)) B.pre
  have hown : s.vm.findClass RX4 = some m.cls := findClass_of_methodNamed B.named
  have hlocks := B.notSynchronized
  have hD := hD0.self (sz := b + kK cs)
  generalize hAe : va_A (cW cB cI cJ cZ cS cO b cs) (b + kK cs) = A at hD hZ ⊢
  have hA : ∀ q : Nat, s.heap.size ≤ q → A q := fun q h => by rw [← hAe]; exact Or.inr (by omega)
  have hS : va_S A s.heap s.heap [] := va_S.rf
  have hG : va_S A s.heap s.heap [] := va_S.rf
  have hgz : s.heap.size = b + kK cs := hsz
  have hl := lv_entry ([.ref (b + x0), .ref (b + x1), .int x2, .int x3]) (n := 6) (Nat.le_of_ble_eq_true rfl)
  rw [lg_entry_eq]
  generalize (lg_sl ([.ref (b + x0), .ref (b + x1), .int x2, .int x3]) ++ List.replicate (6 - (lg_sl ([.ref (b + x0), .ref (b + x1), .int x2, .int x3])).length) Slot.unset).toArray = ls at hl ⊢
  have hl : lv_has ls 6 [(0, .ref (b + x0)), (1, .ref (b + x1)), (2, .int x2), (3, .int x3)] := hl
  have B_122 : ∀ (cs1 : CS) , c_X4_computeInsides_b122 F cs1 = some cs9 → kK cs ≤ kK cs1 → kM cs ≤ kM cs1 → ∀ (Gh H : Heap) (locs : List Loc) (ls : Array Slot), va_P (dC, dI) vwCl (cW cB cI cJ cZ cS cO b cs1) H → va_D A (cW cB cI cJ cZ cS cO b cs1) → va_S A s.heap Gh [] → Gh.size = b + kK cs1 → va_S A Gh H locs → lv_has ls 6 [] → W p l e (headSpec (wsOf yX4_computeInsides cX4_computeInsides 6 none) ({ frames := 5, cells := kK cs9 - kK cs, slots := kM cs9 - kM cs, locals := 60 * (5) } : Room)).room s m ([.ref (b + x0), .ref (b + x1), .int x2, .int x3] : List Value).toArray below meth c H locs (kK cs1 - kK cs) (kM cs1 - kM cs) (MQ below (va_Qv (fun (_ : Unit) => True) (fun _ t_ => va_P (dC, dI) vwCl (cW cB cI cJ cZ cS cO b cs9) t_.heap ∧ va_D A (cW cB cI cJ cZ cS cO b cs9) ∧ b + kK cs9 ≤ t_.heap.size) A) ([.ref (b + x0), .ref (b + x1), .int x2, .int x3] : List Value).toArray s (kK cs9 - kK cs) (kM cs9 - kM cs) A) (F0 m 122 ls []) := by
    intro cs1  h hmk hmm Gh H locs ls hP hD hG hgz hS hl
    obtain ⟨kb9, mb9⟩ := mo_c_X4_computeInsides_b122 F cs1  cs9 h
    unfold c_X4_computeInsides_b122 at h
    have e1 := Option.some.inj h
    rw [e1] at hP hD
    have e3 := congrArg kK e1
    have e4 := congrArg kM e1
    refine W_cnt (c2 := kK cs9 - kK cs) (n2 := kM cs9 - kM cs) (by omega) (by omega) ?_
    exact W.vret hx hb hr (fun t_ ht hW => ⟨⟨(), rfl, trivial, by rw [ht]; exact hP, hD, by rw [ht]; have := hS.1; omega⟩, (hG.comp hS).F ht⟩) (hG.comp hS).2.2 dX4_computeInsides_122
  have L_3 : ∀ (lf_3 : Nat), ∀ (cs1 : CS) (u0 : Nat) (u1 : Nat) (u2 : Int32) (u3 : Int32) (u4 : Int32), c_X4_computeInsides_L3 F lf_3 cs1 u0 u1 u2 u3 u4 = some cs9 → kK cs ≤ kK cs1 → kM cs ≤ kM cs1 → ∀ (Gh H : Heap) (locs : List Loc) (ls : Array Slot), va_P (dC, dI) vwCl (cW cB cI cJ cZ cS cO b cs1) H → va_D A (cW cB cI cJ cZ cS cO b cs1) → va_S A s.heap Gh [] → Gh.size = b + kK cs1 → va_S A Gh H locs → lv_has ls 6 [(0, .ref (b + u0)), (1, .ref (b + u1)), (2, .int u2), (3, .int u3), (4, .int u4)] → W p l e (headSpec (wsOf yX4_computeInsides cX4_computeInsides 6 none) ({ frames := 5, cells := kK cs9 - kK cs, slots := kM cs9 - kM cs, locals := 60 * (5) } : Room)).room s m ([.ref (b + x0), .ref (b + x1), .int x2, .int x3] : List Value).toArray below meth c H locs (kK cs1 - kK cs) (kM cs1 - kM cs) (MQ below (va_Qv (fun (_ : Unit) => True) (fun _ t_ => va_P (dC, dI) vwCl (cW cB cI cJ cZ cS cO b cs9) t_.heap ∧ va_D A (cW cB cI cJ cZ cS cO b cs9) ∧ b + kK cs9 ≤ t_.heap.size) A) ([.ref (b + x0), .ref (b + x1), .int x2, .int x3] : List Value).toArray s (kK cs9 - kK cs) (kM cs9 - kM cs) A) (F0 m 3 ls []) := by
    intro lf_3
    induction lf_3 with
    | zero => intro cs1 u0 u1 u2 u3 u4 h; cases (show (none : Option CS) = _ from h)
    | succ lf_3 ih_3 =>
      have B_116 : ∀ (cs1 : CS) (u0 : Nat) (u1 : Nat) (u2 : Int32) (u3 : Int32) (u4 : Int32), c_X4_computeInsides_b116 F (c_X4_computeInsides_L3 F lf_3) cs1 u0 u1 u2 u3 u4 = some cs9 → kK cs ≤ kK cs1 → kM cs ≤ kM cs1 → ∀ (Gh H : Heap) (locs : List Loc) (ls : Array Slot), va_P (dC, dI) vwCl (cW cB cI cJ cZ cS cO b cs1) H → va_D A (cW cB cI cJ cZ cS cO b cs1) → va_S A s.heap Gh [] → Gh.size = b + kK cs1 → va_S A Gh H locs → lv_has ls 6 [(0, .ref (b + u0)), (1, .ref (b + u1)), (2, .int u2), (3, .int u3), (4, .int u4)] → W p l e (headSpec (wsOf yX4_computeInsides cX4_computeInsides 6 none) ({ frames := 5, cells := kK cs9 - kK cs, slots := kM cs9 - kM cs, locals := 60 * (5) } : Room)).room s m ([.ref (b + x0), .ref (b + x1), .int x2, .int x3] : List Value).toArray below meth c H locs (kK cs1 - kK cs) (kM cs1 - kM cs) (MQ below (va_Qv (fun (_ : Unit) => True) (fun _ t_ => va_P (dC, dI) vwCl (cW cB cI cJ cZ cS cO b cs9) t_.heap ∧ va_D A (cW cB cI cJ cZ cS cO b cs9) ∧ b + kK cs9 ≤ t_.heap.size) A) ([.ref (b + x0), .ref (b + x1), .int x2, .int x3] : List Value).toArray s (kK cs9 - kK cs) (kM cs9 - kM cs) A) (F0 m 116 ls []) := by
        intro cs1 u0 u1 u2 u3 u4 h hmk hmm Gh H locs ls hP hD hG hgz hS hl
        obtain ⟨kb9, mb9⟩ := mo_c_X4_computeInsides_b116 F (c_X4_computeInsides_L3 F lf_3) (mo_c_X4_computeInsides_L3 F lf_3) cs1 u0 u1 u2 u3 u4 cs9 h
        unfold c_X4_computeInsides_b116 at h
        refine lv_iinc (v := u4 + 1) (lv' := [(4, .int (u4 + 1)), (0, .ref (b + u0)), (1, .ref (b + u1)), (2, .int u2), (3, .int u3)]) hx hb dX4_computeInsides_116 hl (k := 4) rfl rfl (by decide) rfl (fun ls hl => ?_)
        refine lv_goto (tgt := 3) hx hb dX4_computeInsides_119 (by decide) ?_
        refine W_cnt (c2 := kK cs1 - kK cs) (n2 := kM cs1 - kM cs) (by omega) (by omega) ?_
        exact ih_3 cs1 u0 u1 u2 u3 (u4 + 1) h (by omega) (by omega) _ _ _ _ hP hD hG (by omega) hS (lv_sub hl [1, 2, 3, 4, 0] rfl)
      have B_71 : ∀ (cs1 : CS) (u0 : Nat) (u1 : Nat) (u2 : Int32) (u3 : Int32) (u4 : Int32), c_X4_computeInsides_b71 F (c_X4_computeInsides_L3 F lf_3) cs1 u0 u1 u2 u3 u4 = some cs9 → kK cs ≤ kK cs1 → kM cs ≤ kM cs1 → ∀ (Gh H : Heap) (locs : List Loc) (ls : Array Slot), va_P (dC, dI) vwCl (cW cB cI cJ cZ cS cO b cs1) H → va_D A (cW cB cI cJ cZ cS cO b cs1) → va_S A s.heap Gh [] → Gh.size = b + kK cs1 → va_S A Gh H locs → lv_has ls 6 [(0, .ref (b + u0)), (1, .ref (b + u1)), (2, .int u2), (3, .int u3), (4, .int u4)] → W p l e (headSpec (wsOf yX4_computeInsides cX4_computeInsides 6 none) ({ frames := 5, cells := kK cs9 - kK cs, slots := kM cs9 - kM cs, locals := 60 * (5) } : Room)).room s m ([.ref (b + x0), .ref (b + x1), .int x2, .int x3] : List Value).toArray below meth c H locs (kK cs1 - kK cs) (kM cs1 - kM cs) (MQ below (va_Qv (fun (_ : Unit) => True) (fun _ t_ => va_P (dC, dI) vwCl (cW cB cI cJ cZ cS cO b cs9) t_.heap ∧ va_D A (cW cB cI cJ cZ cS cO b cs9) ∧ b + kK cs9 ≤ t_.heap.size) A) ([.ref (b + x0), .ref (b + x1), .int x2, .int x3] : List Value).toArray s (kK cs9 - kK cs) (kM cs9 - kM cs) A) (F0 m 71 ls []) := by
        intro cs1 u0 u1 u2 u3 u4 h hmk hmm Gh H locs ls hP hD hG hgz hS hl
        obtain ⟨kb9, mb9⟩ := mo_c_X4_computeInsides_b71 F (c_X4_computeInsides_L3 F lf_3) (mo_c_X4_computeInsides_L3 F lf_3) cs1 u0 u1 u2 u3 u4 cs9 h
        unfold c_X4_computeInsides_b71 at h
        refine lv_goto (tgt := 116) hx hb dX4_computeInsides_71 (by decide) ?_
        refine W_cnt (c2 := kK cs1 - kK cs) (n2 := kM cs1 - kM cs) (by omega) (by omega) ?_
        exact B_116 cs1 u0 u1 u2 u3 u4 h (by omega) (by omega) _ _ _ _ hP hD hG (by omega) hS (lv_sub hl [0, 1, 2, 3, 4] rfl)
      have B_74 : ∀ (cs1 : CS) (u0 : Nat) (u1 : Nat) (u2 : Int32) (u3 : Int32) (u4 : Int32) (u5 : Int32), c_X4_computeInsides_b74 F (c_X4_computeInsides_L3 F lf_3) cs1 u0 u1 u2 u3 u4 u5 = some cs9 → kK cs ≤ kK cs1 → kM cs ≤ kM cs1 → ∀ (Gh H : Heap) (locs : List Loc) (ls : Array Slot), va_P (dC, dI) vwCl (cW cB cI cJ cZ cS cO b cs1) H → va_D A (cW cB cI cJ cZ cS cO b cs1) → va_S A s.heap Gh [] → Gh.size = b + kK cs1 → va_S A Gh H locs → lv_has ls 6 [(0, .ref (b + u0)), (1, .ref (b + u1)), (2, .int u2), (3, .int u3), (4, .int u4), (5, .int u5)] → W p l e (headSpec (wsOf yX4_computeInsides cX4_computeInsides 6 none) ({ frames := 5, cells := kK cs9 - kK cs, slots := kM cs9 - kM cs, locals := 60 * (5) } : Room)).room s m ([.ref (b + x0), .ref (b + x1), .int x2, .int x3] : List Value).toArray below meth c H locs (kK cs1 - kK cs) (kM cs1 - kM cs) (MQ below (va_Qv (fun (_ : Unit) => True) (fun _ t_ => va_P (dC, dI) vwCl (cW cB cI cJ cZ cS cO b cs9) t_.heap ∧ va_D A (cW cB cI cJ cZ cS cO b cs9) ∧ b + kK cs9 ≤ t_.heap.size) A) ([.ref (b + x0), .ref (b + x1), .int x2, .int x3] : List Value).toArray s (kK cs9 - kK cs) (kM cs9 - kM cs) A) (F0 m 74 ls []) := by
        intro cs1 u0 u1 u2 u3 u4 u5 h hmk hmm Gh H locs ls hP hD hG hgz hS hl
        obtain ⟨kb9, mb9⟩ := mo_c_X4_computeInsides_b74 F (c_X4_computeInsides_L3 F lf_3) (mo_c_X4_computeInsides_L3 F lf_3) cs1 u0 u1 u2 u3 u4 u5 cs9 h
        unfold c_X4_computeInsides_b74 at h
        refine lv_aload_n hx hb dX4_computeInsides_74 rfl (lv_at hl 0 rfl) ?_
        replace h := ob h; obtain ⟨v_1, hv_1, h⟩ := h
        refine fg_X4_15 hx hb hts hown hK hP hv_1 dX4_computeInsides_75 ?_
        refine lv_iload hx hb dX4_computeInsides_78 (lv_at hl 5 rfl) ?_
        refine lv_iconst (v := 1) hx hb dX4_computeInsides_80 (by decide) ?_
        refine lv_isub hx hb dX4_computeInsides_81 ?_
        refine lv_aload_n hx hb dX4_computeInsides_82 rfl (lv_at hl 0 rfl) ?_
        replace h := ob h; obtain ⟨v_2, hv_2, h⟩ := h
        refine fg_X4_19 hx hb hts hown hK hP hv_2 dX4_computeInsides_83 ?_
        refine lv_iload_n hx hb dX4_computeInsides_86 rfl (lv_at hl 2 rfl) ?_
        replace h := ob h; obtain ⟨i_3, hi_3, h⟩ := h
        subst hi_3
        replace h := ob h; obtain ⟨i_5, hi_5, h⟩ := h
        subst hi_5
        replace h := ob h; obtain ⟨w_6, hw_6, h⟩ := h
        replace h := ob h; obtain ⟨z_4, hv_4, h⟩ := h
        obtain ⟨qk_4, qm_4⟩ := k_of (mo_c_X1_compute F cs1 i_5 (u5 - 1) i_3 u2 z_4.1 z_4.2 hv_4)
        refine cbvI (As := [.int (u5 - 1), .ref (b + i_3), .int u2]) hx hb hml hts hown hK hP hD hS hG hA (by omega) (by omega) hZ (X := 2) (by decide) rfl (ckE_some hw_6) (sc_X1_compute l dC dI cB cI cJ cZ cS cO b K V fz F cs1 i_5 (u5 - 1) i_3 u2 z_4.1 z_4.2 hv_4) (cw_X4_X1_compute hts (fr := 2) (Nat.le_of_ble_eq_true rfl) (Nat.le_of_ble_eq_true rfl)) rfl hl.1 (Nat.le_of_ble_eq_true rfl) ⟨by show kK cs1 - kK cs ≤ kK cs9 - kK cs; omega, by show kM cs1 - kM cs ≤ kM cs9 - kM cs; omega⟩ dX4_computeInsides_87 (fun H locs hP hD hG hgz hS => ?_)
        refine lv_pop hx hb dX4_computeInsides_90 rfl ?_
        refine lv_aload_n hx hb dX4_computeInsides_91 rfl (lv_at hl 0 rfl) ?_
        replace h := ob h; obtain ⟨v_7, hv_7, h⟩ := h
        refine fg_X4_19 hx hb hts hown hK hP hv_7 dX4_computeInsides_92 ?_
        refine lv_iload_n hx hb dX4_computeInsides_95 rfl (lv_at hl 3 rfl) ?_
        refine lv_iload hx hb dX4_computeInsides_96 (lv_at hl 4 rfl) ?_
        refine lv_iadd hx hb dX4_computeInsides_98 ?_
        refine lv_aload_n hx hb dX4_computeInsides_99 rfl (lv_at hl 0 rfl) ?_
        replace h := ob h; obtain ⟨v_8, hv_8, h⟩ := h
        refine fg_X4_15 hx hb hts hown hK hP hv_8 dX4_computeInsides_100 ?_
        replace h := ob h; obtain ⟨i_10, hi_10, h⟩ := h
        subst hi_10
        replace h := ob h; obtain ⟨w_11, hw_11, h⟩ := h
        replace h := ob h; obtain ⟨v_9, hv_9, h⟩ := h
        refine cbvL (As := []) hx hb hml hts hown hK hP hD hS hG hA (by omega) (by omega) hZ (X := 2) (by decide) rfl (ckE_some hw_11) (sc_X1_resultValue l dC dI cB cI cJ cZ cS cO b K V fz F z_4.1 i_10 v_9 hv_9) (cw_X4_X1_resultValue hts (fr := 0) (Nat.le_of_ble_eq_true rfl) (Nat.le_of_ble_eq_true rfl)) rfl hl.1 (by simp only [List.map, List.sum_cons, List.sum_nil, rv_cat]; exact Nat.le_of_ble_eq_true rfl) ⟨by show kK cs1 - kK cs ≤ kK cs9 - kK cs; omega, by show kM cs1 - kM cs ≤ kM cs9 - kM cs; omega⟩ dX4_computeInsides_103 (fun H locs hP hD hG hgz hS => ?_)
        refine lv_aload_n hx hb dX4_computeInsides_106 rfl (lv_at hl 0 rfl) ?_
        replace h := ob h; obtain ⟨v_12, hv_12, h⟩ := h
        refine fg_X4_15 hx hb hts hown hK hP hv_12 dX4_computeInsides_107 ?_
        replace h := ob h; obtain ⟨i_14, hi_14, h⟩ := h
        subst hi_14
        replace h := ob h; obtain ⟨w_15, hw_15, h⟩ := h
        replace h := ob h; obtain ⟨v_13, hv_13, h⟩ := h
        refine cbvI (As := []) hx hb hml hts hown hK hP hD hS hG hA (by omega) (by omega) hZ (X := 2) (by decide) rfl (ckE_some hw_15) (sc_X1_resultBlank l dC dI cB cI cJ cZ cS cO b K V fz F z_4.1 i_14 v_13 hv_13) (cw_X4_X1_resultBlank hts (fr := 0) (Nat.le_of_ble_eq_true rfl) (Nat.le_of_ble_eq_true rfl)) rfl hl.1 (by simp only [List.map, List.sum_cons, List.sum_nil, rv_cat]; exact Nat.le_of_ble_eq_true rfl) ⟨by show kK cs1 - kK cs ≤ kK cs9 - kK cs; omega, by show kM cs1 - kM cs ≤ kM cs9 - kM cs; omega⟩ dX4_computeInsides_110 (fun H locs hP hD hG hgz hS => ?_)
        replace h := ob h; obtain ⟨i_17, hi_17, h⟩ := h
        subst hi_17
        replace h := ob h; obtain ⟨w_18, hw_18, h⟩ := h
        replace h := ob h; obtain ⟨cs_16, hv_16, h⟩ := h
        obtain ⟨qk_16, qm_16⟩ := mo_c_X8_put F z_4.1 i_17 (u3 + u4) v_9 v_13 cs_16 hv_16
        obtain ⟨k9_16, m9_16⟩ := mo_c_X4_computeInsides_b116 F (c_X4_computeInsides_L3 F lf_3) (mo_c_X4_computeInsides_L3 F lf_3) cs_16 u0 u1 u2 u3 u4 cs9 h
        refine cavV (As := [.int (u3 + u4), .long v_9, .int v_13]) hx hb hml hts hown hK hP hD hS hG hA (by omega) (by omega) hZ (X := 9) (by decide) rfl (ckE_some hw_18) (sa_X8_put l dC dI cB cI cJ cZ cS cO b K V fz F z_4.1 i_17 (u3 + u4) v_9 v_13 cs_16 hv_16) (cw_X4_X8_put hts (fr := 4) (Nat.le_of_ble_eq_true rfl) (Nat.le_of_ble_eq_true rfl)) rfl hl.1 (Nat.le_of_ble_eq_true rfl) ⟨by show kK cs1 - kK cs + (kK cs_16 - kK z_4.1) ≤ kK cs9 - kK cs; omega, by show kM cs1 - kM cs + (kM cs_16 - kM z_4.1) ≤ kM cs9 - kM cs; omega⟩ dX4_computeInsides_113 (fun H locs hP hD hG hgz hS => ?_)
        refine W_cnt (c2 := kK cs_16 - kK cs) (n2 := kM cs_16 - kM cs) (by omega) (by omega) ?_
        exact B_116 cs_16 u0 u1 u2 u3 u4 h (by omega) (by omega) _ _ _ _ hP hD hG (by omega) hS (lv_sub hl [0, 1, 2, 3, 4] rfl)
      intro cs1 u0 u1 u2 u3 u4 h hmk hmm Gh H locs ls hP hD hG hgz hS hl
      obtain ⟨kb9, mb9⟩ := mo_c_X4_computeInsides_L3 F (lf_3 + 1) cs1 u0 u1 u2 u3 u4 cs9 h
      rw [c_X4_computeInsides_L3] at h
      refine lv_iload hx hb dX4_computeInsides_3 (lv_at hl 4 rfl) ?_
      refine lv_aload_n hx hb dX4_computeInsides_5 rfl (lv_at hl 1 rfl) ?_
      replace h := ob h; obtain ⟨v_19, hv_19, h⟩ := h
      refine fg_X4_156 hx hb hts hown hK hP hv_19 dX4_computeInsides_6 ?_
      refine lv_icmp_ge (tgt := 122) hx hb dX4_computeInsides_9 (by decide) (fun c_20 => ?_) (fun c_20 => ?_)
      · skip
        replace h := (if_pos c_20).symm.trans h
        refine W_cnt (c2 := kK cs1 - kK cs) (n2 := kM cs1 - kM cs) (by omega) (by omega) ?_
        exact B_122 cs1 h (by omega) (by omega) _ _ _ _ hP hD hG (by omega) hS (lv_sub hl [] rfl)
      · skip
        replace h := (if_neg c_20).symm.trans h
        refine lv_iload hx hb dX4_computeInsides_12 (lv_at hl 4 rfl) ?_
        refine lv_aload_n hx hb dX4_computeInsides_14 rfl (lv_at hl 1 rfl) ?_
        replace h := ob h; obtain ⟨v_21, hv_21, h⟩ := h
        refine fg_X4_244 hx hb hts hown hK hP hv_21 dX4_computeInsides_15 ?_
        replace h := ob h; obtain ⟨v_22, hv_22, h⟩ := h
        refine alen0 hx hb hK hP rfl hv_22 dX4_computeInsides_18 ?_
        refine lv_icmp_ge (tgt := 122) hx hb dX4_computeInsides_19 (by decide) (fun c_23 => ?_) (fun c_23 => ?_)
        · skip
          replace h := (if_pos c_23).symm.trans h
          refine W_cnt (c2 := kK cs1 - kK cs) (n2 := kM cs1 - kM cs) (by omega) (by omega) ?_
          exact B_122 cs1 h (by omega) (by omega) _ _ _ _ hP hD hG (by omega) hS (lv_sub hl [] rfl)
        · skip
          replace h := (if_neg c_23).symm.trans h
          refine lv_aload_n hx hb dX4_computeInsides_22 rfl (lv_at hl 1 rfl) ?_
          replace h := ob h; obtain ⟨v_24, hv_24, h⟩ := h
          refine fg_X4_244 hx hb hts hown hK hP hv_24 dX4_computeInsides_23 ?_
          refine lv_iload hx hb dX4_computeInsides_26 (lv_at hl 4 rfl) ?_
          replace h := ob h; obtain ⟨v_25, hv_25, h⟩ := h
          refine ald0 hx hb hK hP rfl hv_25 dX4_computeInsides_28 ?_
          refine lv_istore (lv' := [(5, .int v_25), (0, .ref (b + u0)), (1, .ref (b + u1)), (2, .int u2), (3, .int u3), (4, .int u4)]) hx hb dX4_computeInsides_29 hl (by decide) rfl (fun ls hl => ?_)
          refine lv_aload_n hx hb dX4_computeInsides_31 rfl (lv_at hl 1 rfl) ?_
          replace h := ob h; obtain ⟨v_26, hv_26, h⟩ := h
          refine fg_X4_15 hx hb hts hown hK hP hv_26 dX4_computeInsides_32 ?_
          refine lv_iload hx hb dX4_computeInsides_35 (lv_at hl 0 rfl) ?_
          replace h := ob h; obtain ⟨i_28, hi_28, h⟩ := h
          subst hi_28
          replace h := ob h; obtain ⟨w_29, hw_29, h⟩ := h
          replace h := ob h; obtain ⟨v_27, hv_27, h⟩ := h
          refine cbvI (As := [.int v_25]) hx hb hml hts hown hK hP hD hS hG hA (by omega) (by omega) hZ (X := 2) (by decide) rfl (ckE_some hw_29) (sc_X1_has l dC dI cB cI cJ cZ cS cO b K V fz F cs1 i_28 v_25 v_27 hv_27) (cw_X4_X1_has hts (fr := 0) (Nat.le_of_ble_eq_true rfl) (Nat.le_of_ble_eq_true rfl)) rfl hl.1 (Nat.le_of_ble_eq_true rfl) ⟨by show kK cs1 - kK cs ≤ kK cs9 - kK cs; omega, by show kM cs1 - kM cs ≤ kM cs9 - kM cs; omega⟩ dX4_computeInsides_37 (fun H locs hP hD hG hgz hS => ?_)
          refine lv_if_eq (tgt := 74) hx hb dX4_computeInsides_40 (by decide) (fun c_30 => ?_) (fun c_30 => ?_)
          · skip
            replace h := (if_pos c_30).symm.trans h
            refine W_cnt (c2 := kK cs1 - kK cs) (n2 := kM cs1 - kM cs) (by omega) (by omega) ?_
            exact B_74 cs1 u0 u1 u2 u3 u4 v_25 h (by omega) (by omega) _ _ _ _ hP hD hG (by omega) hS (lv_sub hl [1, 2, 3, 4, 5, 0] rfl)
          · skip
            replace h := (if_neg c_30).symm.trans h
            refine lv_aload_n hx hb dX4_computeInsides_43 rfl (lv_at hl 1 rfl) ?_
            replace h := ob h; obtain ⟨v_31, hv_31, h⟩ := h
            refine fg_X4_15 hx hb hts hown hK hP hv_31 dX4_computeInsides_44 ?_
            replace h := ob h; obtain ⟨i_32, hi_32, h⟩ := h
            subst hi_32
            replace h := ob h; obtain ⟨v_33, hv_33, h⟩ := h
            refine fg_X4_248 hx hb hts hown hK hP hv_33 dX4_computeInsides_47 ?_
            refine lv_iload hx hb dX4_computeInsides_50 (lv_at hl 0 rfl) ?_
            replace h := ob h; obtain ⟨v_34, hv_34, h⟩ := h
            refine ald0 hx hb hK hP rfl hv_34 dX4_computeInsides_52 ?_
            refine lv_bipush (v := 61) hx hb dX4_computeInsides_53 (by decide) ?_
            refine lv_icmp_ne (tgt := 74) hx hb dX4_computeInsides_55 (by decide) (fun c_35 => ?_) (fun c_35 => ?_)
            · skip
              replace h := (if_neg c_35).symm.trans h
              refine W_cnt (c2 := kK cs1 - kK cs) (n2 := kM cs1 - kM cs) (by omega) (by omega) ?_
              exact B_74 cs1 u0 u1 u2 u3 u4 v_25 h (by omega) (by omega) _ _ _ _ hP hD hG (by omega) hS (lv_sub hl [1, 2, 3, 4, 5, 0] rfl)
            · skip
              replace h := (if_pos c_35).symm.trans h
              refine lv_aload_n hx hb dX4_computeInsides_58 rfl (lv_at hl 1 rfl) ?_
              replace h := ob h; obtain ⟨v_36, hv_36, h⟩ := h
              refine fg_X4_19 hx hb hts hown hK hP hv_36 dX4_computeInsides_59 ?_
              refine lv_iload_n hx hb dX4_computeInsides_62 rfl (lv_at hl 4 rfl) ?_
              refine lv_iload hx hb dX4_computeInsides_63 (lv_at hl 5 rfl) ?_
              refine lv_iadd hx hb dX4_computeInsides_65 ?_
              refine lv_lconst (v := 1) hx hb dX4_computeInsides_66 (by decide) ?_
              refine lv_iconst (v := 0) hx hb dX4_computeInsides_67 (by decide) ?_
              replace h := ob h; obtain ⟨i_38, hi_38, h⟩ := h
              subst hi_38
              replace h := ob h; obtain ⟨w_39, hw_39, h⟩ := h
              replace h := ob h; obtain ⟨cs_37, hv_37, h⟩ := h
              obtain ⟨qk_37, qm_37⟩ := mo_c_X8_put F cs1 i_38 (u3 + u4) 1 0 cs_37 hv_37
              obtain ⟨k9_37, m9_37⟩ := mo_c_X4_computeInsides_b71 F (c_X4_computeInsides_L3 F lf_3) (mo_c_X4_computeInsides_L3 F lf_3) cs_37 u0 u1 u2 u3 u4 cs9 h
              refine cavV (As := [.int (u3 + u4), .long 1, .int 0]) hx hb hml hts hown hK hP hD hS hG hA (by omega) (by omega) hZ (X := 9) (by decide) rfl (ckE_some hw_39) (sa_X8_put l dC dI cB cI cJ cZ cS cO b K V fz F cs1 i_38 (u3 + u4) 1 0 cs_37 hv_37) (cw_X4_X8_put hts (fr := 4) (Nat.le_of_ble_eq_true rfl) (Nat.le_of_ble_eq_true rfl)) rfl hl.1 (Nat.le_of_ble_eq_true rfl) ⟨by show kK cs1 - kK cs + (kK cs_37 - kK cs1) ≤ kK cs9 - kK cs; omega, by show kM cs1 - kM cs + (kM cs_37 - kM cs1) ≤ kM cs9 - kM cs; omega⟩ dX4_computeInsides_68 (fun H locs hP hD hG hgz hS => ?_)
              refine W_cnt (c2 := kK cs_37 - kK cs) (n2 := kM cs_37 - kM cs) (by omega) (by omega) ?_
              exact B_71 cs_37 u0 u1 u2 u3 u4 h (by omega) (by omega) _ _ _ _ hP hD hG (by omega) hS (lv_sub hl [1, 2, 3, 4, 5] rfl)
  have h := hf
  unfold c_X4_computeInsides at h
  refine W_cnt (c2 := kK cs - kK cs) (n2 := kM cs - kM cs) (by omega) (by omega) ?_
  refine lv_iconst (v := 0) hx hb dX4_computeInsides_0 (by decide) ?_
  refine lv_istore (lv' := [(4, .int 0), (0, .ref (b + x0)), (1, .ref (b + x1)), (2, .int x2), (3, .int x3)]) hx hb dX4_computeInsides_1 hl (by decide) rfl (fun ls hl => ?_)
  refine W_cnt (c2 := kK cs - kK cs) (n2 := kM cs - kM cs) (by omega) (by omega) ?_
  exact L_3 F cs x0 x1 x2 x3 0 h (by omega) (by omega) _ _ _ _ hP hD hG (by omega) hS (lv_sub hl [1, 2, 3, 4, 0] rfl)
theorem dX8_sort_0 : decode cX8_sort 0 = .ok (.iload_n 2, 1) := by decide +kernel
theorem dX8_sort_1 : decode cX8_sort 1 = .ok (.iconst 2, 1) := by decide +kernel
theorem dX8_sort_2 : decode cX8_sort 2 = .ok (.if_icmp .ge 4, 3) := by decide +kernel
theorem dX8_sort_5 : decode cX8_sort 5 = .ok (.return_, 1) := by decide +kernel
theorem dX8_sort_6 : decode cX8_sort 6 = .ok (.aload_n 0, 1) := by decide +kernel
theorem dX8_sort_7 : decode cX8_sort 7 = .ok (.getfield 19, 3) := by decide +kernel
theorem dX8_sort_10 : decode cX8_sort 10 = .ok (.arraylength, 1) := by decide +kernel
theorem dX8_sort_11 : decode cX8_sort 11 = .ok (.iload_n 2, 1) := by decide +kernel
theorem dX8_sort_12 : decode cX8_sort 12 = .ok (.if_icmp .lt 12, 3) := by decide +kernel
theorem dX8_sort_15 : decode cX8_sort 15 = .ok (.aload_n 0, 1) := by decide +kernel
theorem dX8_sort_16 : decode cX8_sort 16 = .ok (.getfield 23, 3) := by decide +kernel
theorem dX8_sort_19 : decode cX8_sort 19 = .ok (.arraylength, 1) := by decide +kernel
theorem dX8_sort_20 : decode cX8_sort 20 = .ok (.iload_n 2, 1) := by decide +kernel
theorem dX8_sort_21 : decode cX8_sort 21 = .ok (.if_icmp .ge 21, 3) := by decide +kernel
theorem dX8_sort_24 : decode cX8_sort 24 = .ok (.aload_n 0, 1) := by decide +kernel
theorem dX8_sort_25 : decode cX8_sort 25 = .ok (.iconst 2, 1) := by decide +kernel
theorem dX8_sort_26 : decode cX8_sort 26 = .ok (.iload_n 2, 1) := by decide +kernel
theorem dX8_sort_27 : decode cX8_sort 27 = .ok (.imul, 1) := by decide +kernel
theorem dX8_sort_28 : decode cX8_sort 28 = .ok (.newarray .int, 2) := by decide +kernel
theorem dX8_sort_30 : decode cX8_sort 30 = .ok (.putfield 19, 3) := by decide +kernel
theorem dX8_sort_33 : decode cX8_sort 33 = .ok (.aload_n 0, 1) := by decide +kernel
theorem dX8_sort_34 : decode cX8_sort 34 = .ok (.iconst 2, 1) := by decide +kernel
theorem dX8_sort_35 : decode cX8_sort 35 = .ok (.iload_n 2, 1) := by decide +kernel
theorem dX8_sort_36 : decode cX8_sort 36 = .ok (.imul, 1) := by decide +kernel
theorem dX8_sort_37 : decode cX8_sort 37 = .ok (.newarray .int, 2) := by decide +kernel
theorem dX8_sort_39 : decode cX8_sort 39 = .ok (.putfield 23, 3) := by decide +kernel
theorem dX8_sort_42 : decode cX8_sort 42 = .ok (.iconst 0, 1) := by decide +kernel
theorem dX8_sort_43 : decode cX8_sort 43 = .ok (.istore 5, 2) := by decide +kernel
theorem dX8_sort_45 : decode cX8_sort 45 = .ok (.iload 5, 2) := by decide +kernel
theorem dX8_sort_47 : decode cX8_sort 47 = .ok (.iload_n 2, 1) := by decide +kernel
theorem dX8_sort_48 : decode cX8_sort 48 = .ok (.if_icmp .ge 22, 3) := by decide +kernel
theorem dX8_sort_51 : decode cX8_sort 51 = .ok (.aload_n 0, 1) := by decide +kernel
theorem dX8_sort_52 : decode cX8_sort 52 = .ok (.getfield 19, 3) := by decide +kernel
theorem dX8_sort_55 : decode cX8_sort 55 = .ok (.iload 5, 2) := by decide +kernel
theorem dX8_sort_57 : decode cX8_sort 57 = .ok (.iload_n 1, 1) := by decide +kernel
theorem dX8_sort_58 : decode cX8_sort 58 = .ok (.iload 5, 2) := by decide +kernel
theorem dX8_sort_60 : decode cX8_sort 60 = .ok (.iload_n 3, 1) := by decide +kernel
theorem dX8_sort_61 : decode cX8_sort 61 = .ok (.imul, 1) := by decide +kernel
theorem dX8_sort_62 : decode cX8_sort 62 = .ok (.iadd, 1) := by decide +kernel
theorem dX8_sort_63 : decode cX8_sort 63 = .ok (.iastore, 1) := by decide +kernel
theorem dX8_sort_64 : decode cX8_sort 64 = .ok (.iinc 5 1, 3) := by decide +kernel
theorem dX8_sort_67 : decode cX8_sort 67 = .ok (.goto (-22), 3) := by decide +kernel
theorem dX8_sort_70 : decode cX8_sort 70 = .ok (.iconst 1, 1) := by decide +kernel
theorem dX8_sort_71 : decode cX8_sort 71 = .ok (.istore 5, 2) := by decide +kernel
theorem dX8_sort_73 : decode cX8_sort 73 = .ok (.iload 5, 2) := by decide +kernel
theorem dX8_sort_75 : decode cX8_sort 75 = .ok (.iload_n 2, 1) := by decide +kernel
theorem dX8_sort_76 : decode cX8_sort 76 = .ok (.if_icmp .ge 22, 3) := by decide +kernel
theorem dX8_sort_79 : decode cX8_sort 79 = .ok (.aload_n 0, 1) := by decide +kernel
theorem dX8_sort_80 : decode cX8_sort 80 = .ok (.iload 5, 2) := by decide +kernel
theorem dX8_sort_82 : decode cX8_sort 82 = .ok (.iload_n 2, 1) := by decide +kernel
theorem dX8_sort_83 : decode cX8_sort 83 = .ok (.iload_n 3, 1) := by decide +kernel
theorem dX8_sort_84 : decode cX8_sort 84 = .ok (.iload 4, 2) := by decide +kernel
theorem dX8_sort_86 : decode cX8_sort 86 = .ok (.invokevirtual 69, 3) := by decide +kernel
theorem dX8_sort_89 : decode cX8_sort 89 = .ok (.iload 5, 2) := by decide +kernel
theorem dX8_sort_91 : decode cX8_sort 91 = .ok (.iconst 2, 1) := by decide +kernel
theorem dX8_sort_92 : decode cX8_sort 92 = .ok (.imul, 1) := by decide +kernel
theorem dX8_sort_93 : decode cX8_sort 93 = .ok (.istore 5, 2) := by decide +kernel
theorem dX8_sort_95 : decode cX8_sort 95 = .ok (.goto (-22), 3) := by decide +kernel
theorem dX8_sort_98 : decode cX8_sort 98 = .ok (.iload_n 1, 1) := by decide +kernel
theorem dX8_sort_99 : decode cX8_sort 99 = .ok (.iload_n 2, 1) := by decide +kernel
theorem dX8_sort_100 : decode cX8_sort 100 = .ok (.iload_n 3, 1) := by decide +kernel
theorem dX8_sort_101 : decode cX8_sort 101 = .ok (.imul, 1) := by decide +kernel
theorem dX8_sort_102 : decode cX8_sort 102 = .ok (.iadd, 1) := by decide +kernel
theorem dX8_sort_103 : decode cX8_sort 103 = .ok (.istore 5, 2) := by decide +kernel
theorem dX8_sort_105 : decode cX8_sort 105 = .ok (.iconst 0, 1) := by decide +kernel
theorem dX8_sort_106 : decode cX8_sort 106 = .ok (.istore 6, 2) := by decide +kernel
theorem dX8_sort_108 : decode cX8_sort 108 = .ok (.iload 6, 2) := by decide +kernel
theorem dX8_sort_110 : decode cX8_sort 110 = .ok (.iload_n 2, 1) := by decide +kernel
theorem dX8_sort_111 : decode cX8_sort 111 = .ok (.if_icmp .ge 28, 3) := by decide +kernel
theorem dX8_sort_114 : decode cX8_sort 114 = .ok (.aload_n 0, 1) := by decide +kernel
theorem dX8_sort_115 : decode cX8_sort 115 = .ok (.aload_n 0, 1) := by decide +kernel
theorem dX8_sort_116 : decode cX8_sort 116 = .ok (.getfield 19, 3) := by decide +kernel
theorem dX8_sort_119 : decode cX8_sort 119 = .ok (.iload 6, 2) := by decide +kernel
theorem dX8_sort_121 : decode cX8_sort 121 = .ok (.iaload, 1) := by decide +kernel
theorem dX8_sort_122 : decode cX8_sort 122 = .ok (.iload 5, 2) := by decide +kernel
theorem dX8_sort_124 : decode cX8_sort 124 = .ok (.iload 6, 2) := by decide +kernel
theorem dX8_sort_126 : decode cX8_sort 126 = .ok (.iload_n 3, 1) := by decide +kernel
theorem dX8_sort_127 : decode cX8_sort 127 = .ok (.imul, 1) := by decide +kernel
theorem dX8_sort_128 : decode cX8_sort 128 = .ok (.iadd, 1) := by decide +kernel
theorem dX8_sort_129 : decode cX8_sort 129 = .ok (.iload_n 3, 1) := by decide +kernel
theorem dX8_sort_130 : decode cX8_sort 130 = .ok (.invokevirtual 73, 3) := by decide +kernel
theorem dX8_sort_133 : decode cX8_sort 133 = .ok (.iinc 6 1, 3) := by decide +kernel
theorem dX8_sort_136 : decode cX8_sort 136 = .ok (.goto (-28), 3) := by decide +kernel
theorem dX8_sort_139 : decode cX8_sort 139 = .ok (.aload_n 0, 1) := by decide +kernel
theorem dX8_sort_140 : decode cX8_sort 140 = .ok (.iload 5, 2) := by decide +kernel
theorem dX8_sort_142 : decode cX8_sort 142 = .ok (.iload_n 1, 1) := by decide +kernel
theorem dX8_sort_143 : decode cX8_sort 143 = .ok (.iload_n 2, 1) := by decide +kernel
theorem dX8_sort_144 : decode cX8_sort 144 = .ok (.iload_n 3, 1) := by decide +kernel
theorem dX8_sort_145 : decode cX8_sort 145 = .ok (.imul, 1) := by decide +kernel
theorem dX8_sort_146 : decode cX8_sort 146 = .ok (.invokevirtual 73, 3) := by decide +kernel
theorem dX8_sort_149 : decode cX8_sort 149 = .ok (.return_, 1) := by decide +kernel
def c_X8_sort_b149 (F : Nat) (cs1 : CS) : Option CS := some cs1
def c_X8_sort_b133 (F : Nat) (rc108 : CS → Nat → Int32 → Int32 → Int32 → Int32 → Int32 → Option CS) (cs1 : CS) (u0 : Nat) (u1 : Int32) (u2 : Int32) (u3 : Int32) (u5 : Int32) (u6 : Int32) : Option CS := rc108 cs1 u0 u1 u2 u3 u5 (u6 + 1)
def c_X8_sort_L108 (F : Nat) : Nat → CS → Nat → Int32 → Int32 → Int32 → Int32 → Int32 → Option CS
  | 0, _, _, _, _, _, _, _ => none
  | lf_108 + 1, cs1, u0, u1, u2, u3, u5, u6 => if u2 ≤ u6 then (Option.bind (ckE cs1 9 u0) fun _ => Option.bind (c_X8_copy F cs1 u0 u5 u1 (u2 * u3)) fun cs_2 => c_X8_sort_b149 F cs_2) else (Option.bind (gA cs1 9 290 u0) fun v_4 => Option.bind (rA cs1 290 u0 v_4 u6) fun v_5 => Option.bind (ckE cs1 9 u0) fun _ => Option.bind (c_X8_copy F cs1 u0 v_5 (u5 + (u6 * u3)) u3) fun cs_6 => c_X8_sort_b133 F (c_X8_sort_L108 F lf_108) cs_6 u0 u1 u2 u3 u5 u6)
def c_X8_sort_L73 (F : Nat) : Nat → CS → Nat → Int32 → Int32 → Int32 → Int32 → Int32 → Option CS
  | 0, _, _, _, _, _, _, _ => none
  | lf_73 + 1, cs1, u0, u1, u2, u3, u4, u5 => if u2 ≤ u5 then (c_X8_sort_L108 F F cs1 u0 u1 u2 u3 (u1 + (u2 * u3)) 0) else (Option.bind (ckE cs1 9 u0) fun _ => Option.bind (c_X8_mergeRuns F cs1 u0 u5 u2 u3 u4) fun cs_9 => (c_X8_sort_L73 F lf_73) cs_9 u0 u1 u2 u3 u4 (u5 * 2))
def c_X8_sort_L45 (F : Nat) : Nat → CS → Nat → Int32 → Int32 → Int32 → Int32 → Int32 → Option CS
  | 0, _, _, _, _, _, _, _ => none
  | lf_45 + 1, cs1, u0, u1, u2, u3, u4, u5 => if u2 ≤ u5 then (c_X8_sort_L73 F F cs1 u0 u1 u2 u3 u4 1) else (Option.bind (gA cs1 9 290 u0) fun v_12 => Option.bind (wA cs1 290 u0 v_12 u5 (u1 + (u5 * u3))) fun cs_13 => (c_X8_sort_L45 F lf_45) cs_13 u0 u1 u2 u3 u4 (u5 + 1))
def c_X8_sort_b42 (F : Nat) (cs1 : CS) (u0 : Nat) (u1 : Int32) (u2 : Int32) (u3 : Int32) (u4 : Int32) : Option CS := c_X8_sort_L45 F F cs1 u0 u1 u2 u3 u4 0
def c_X8_sort_b33 (F : Nat) (cs1 : CS) (u0 : Nat) (u1 : Int32) (u2 : Int32) (u3 : Int32) (u4 : Int32) : Option CS := Option.bind (nwA cs1 9 291 u0 (2 * u2)) fun cs_14 => c_X8_sort_b42 F cs_14 u0 u1 u2 u3 u4
def c_X8_sort_b24 (F : Nat) (cs1 : CS) (u0 : Nat) (u1 : Int32) (u2 : Int32) (u3 : Int32) (u4 : Int32) : Option CS := Option.bind (nwA cs1 9 290 u0 (2 * u2)) fun cs_15 => c_X8_sort_b33 F cs_15 u0 u1 u2 u3 u4
def c_X8_sort (F : Nat) (cs : CS) (x0 : Nat) (x1 : Int32) (x2 : Int32) (x3 : Int32) (x4 : Int32) : Option CS := if 2 ≤ x2 then (Option.bind (gA cs 9 290 x0) fun v_17 => Option.bind (lnA cs 290 x0 v_17) fun v_18 => if v_18 < x2 then (c_X8_sort_b24 F cs x0 x1 x2 x3 x4) else (Option.bind (gA cs 9 291 x0) fun v_20 => Option.bind (lnA cs 291 x0 v_20) fun v_21 => if x2 ≤ v_21 then (c_X8_sort_b42 F cs x0 x1 x2 x3 x4) else (c_X8_sort_b24 F cs x0 x1 x2 x3 x4))) else (some cs)
theorem cw_X4_X8_sort {R : Room} {s : State} {args : Array Value} {y0 : MethodName} {c0 : ByteArray} {n0 : Nat} {r0 : Option FieldType} (hts : ∀ w ∈ wsOf y0 c0 n0 r0, w.before args s = true) {fr mc ms : Nat} (h1 : fr + 1 ≤ R.frames) (h2 : 8 + (7 + 11) + 60 * fr ≤ R.locals) : CallW R s args RX4 RX8 75 yX8_sort cX8_sort 7 none (wsOf yX8_sort cX8_sort 7 none) ({ frames := fr, cells := mc, slots := ms, locals := 60 * fr } : Room) mc ms 4 := cwV 4 hts (gd_all (in_V kw_1488 kw_1489 kw_1490 kw_188 kc_X8_sort)) rfl rfl rfl (by decide +kernel) ⟨h1, h2⟩
theorem cw_X11_X8_sort {R : Room} {s : State} {args : Array Value} {y0 : MethodName} {c0 : ByteArray} {n0 : Nat} {r0 : Option FieldType} (hts : ∀ w ∈ wsOf y0 c0 n0 r0, w.before args s = true) {fr mc ms : Nat} (h1 : fr + 1 ≤ R.frames) (h2 : 8 + (7 + 11) + 60 * fr ≤ R.locals) : CallW R s args RX11 RX8 215 yX8_sort cX8_sort 7 none (wsOf yX8_sort cX8_sort 7 none) ({ frames := fr, cells := mc, slots := ms, locals := 60 * fr } : Room) mc ms 4 := cwV 4 hts (gd_all (in_V kw_1550 kw_1489 kw_1490 kw_188 kc_X8_sort)) rfl rfl rfl (by decide +kernel) ⟨h1, h2⟩
theorem mo_c_X8_sort_b149 (F : Nat) (cs1 : CS) (cs9 : CS) (h : c_X8_sort_b149 F cs1 = some cs9) : kK cs1 ≤ kK cs9 ∧ kM cs1 ≤ kM cs9 := by
  unfold c_X8_sort_b149 at h
  have h9 := Option.some.inj h
  have k9 := congrArg kK h9; have m9 := congrArg kM h9; exact ⟨by omega, by omega⟩
theorem mo_c_X8_sort_b133 (F : Nat) (rc108 : CS → Nat → Int32 → Int32 → Int32 → Int32 → Int32 → Option CS) (hrc108 : ∀ (cs1 : CS) (u0 : Nat) (u1 : Int32) (u2 : Int32) (u3 : Int32) (u5 : Int32) (u6 : Int32) (cs9 : CS), rc108 cs1 u0 u1 u2 u3 u5 u6 = some cs9 → kK cs1 ≤ kK cs9 ∧ kM cs1 ≤ kM cs9) (cs1 : CS) (u0 : Nat) (u1 : Int32) (u2 : Int32) (u3 : Int32) (u5 : Int32) (u6 : Int32) (cs9 : CS) (h : c_X8_sort_b133 F rc108 cs1 u0 u1 u2 u3 u5 u6 = some cs9) : kK cs1 ≤ kK cs9 ∧ kM cs1 ≤ kM cs9 := by
  unfold c_X8_sort_b133 at h
  obtain ⟨k9, m9⟩ := hrc108 cs1 u0 u1 u2 u3 u5 (u6 + 1) cs9 h
  exact ⟨by omega, by omega⟩
theorem mo_c_X8_sort_L108 (F : Nat) : ∀ (lf_108 : Nat) (cs1 : CS) (u0 : Nat) (u1 : Int32) (u2 : Int32) (u3 : Int32) (u5 : Int32) (u6 : Int32) (cs9 : CS), c_X8_sort_L108 F lf_108 cs1 u0 u1 u2 u3 u5 u6 = some cs9 → kK cs1 ≤ kK cs9 ∧ kM cs1 ≤ kM cs9 := by
  intro lf_108
  induction lf_108 with
  | zero => intro cs1 u0 u1 u2 u3 u5 u6 cs9 h; cases (show (none : Option CS) = _ from h)
  | succ lf_108 ih_108 =>
    intro cs1 u0 u1 u2 u3 u5 u6 cs9 h
    rw [c_X8_sort_L108] at h
    by_cases c_16 : u2 ≤ u6
    · skip
      replace h := (if_pos c_16).symm.trans h
      replace h := ob h; obtain ⟨w_18, hw_18, h⟩ := h
      replace h := ob h; obtain ⟨cs_17, hv_17, h⟩ := h
      obtain ⟨qk_17, qm_17⟩ := mo_c_X8_copy F cs1 u0 u5 u1 (u2 * u3) cs_17 hv_17
      obtain ⟨k9, m9⟩ := mo_c_X8_sort_b149 F cs_17 cs9 h
      exact ⟨by omega, by omega⟩
    · skip
      replace h := (if_neg c_16).symm.trans h
      replace h := ob h; obtain ⟨v_19, hv_19, h⟩ := h
      replace h := ob h; obtain ⟨v_20, hv_20, h⟩ := h
      replace h := ob h; obtain ⟨w_22, hw_22, h⟩ := h
      replace h := ob h; obtain ⟨cs_21, hv_21, h⟩ := h
      obtain ⟨qk_21, qm_21⟩ := mo_c_X8_copy F cs1 u0 v_20 (u5 + (u6 * u3)) u3 cs_21 hv_21
      obtain ⟨k9, m9⟩ := mo_c_X8_sort_b133 F (c_X8_sort_L108 F lf_108) ih_108 cs_21 u0 u1 u2 u3 u5 u6 cs9 h
      exact ⟨by omega, by omega⟩
theorem mo_c_X8_sort_L73 (F : Nat) : ∀ (lf_73 : Nat) (cs1 : CS) (u0 : Nat) (u1 : Int32) (u2 : Int32) (u3 : Int32) (u4 : Int32) (u5 : Int32) (cs9 : CS), c_X8_sort_L73 F lf_73 cs1 u0 u1 u2 u3 u4 u5 = some cs9 → kK cs1 ≤ kK cs9 ∧ kM cs1 ≤ kM cs9 := by
  intro lf_73
  induction lf_73 with
  | zero => intro cs1 u0 u1 u2 u3 u4 u5 cs9 h; cases (show (none : Option CS) = _ from h)
  | succ lf_73 ih_73 =>
    intro cs1 u0 u1 u2 u3 u4 u5 cs9 h
    rw [c_X8_sort_L73] at h
    by_cases c_16 : u2 ≤ u5
    · skip
      replace h := (if_pos c_16).symm.trans h
      obtain ⟨k9, m9⟩ := mo_c_X8_sort_L108 F F cs1 u0 u1 u2 u3 (u1 + (u2 * u3)) 0 cs9 h
      exact ⟨by omega, by omega⟩
    · skip
      replace h := (if_neg c_16).symm.trans h
      replace h := ob h; obtain ⟨w_18, hw_18, h⟩ := h
      replace h := ob h; obtain ⟨cs_17, hv_17, h⟩ := h
      obtain ⟨qk_17, qm_17⟩ := k_of (mo_c_X8_mergeRuns F cs1 u0 u5 u2 u3 u4 cs_17 hv_17)
      obtain ⟨k9, m9⟩ := ih_73 cs_17 u0 u1 u2 u3 u4 (u5 * 2) cs9 h
      exact ⟨by omega, by omega⟩
theorem mo_c_X8_sort_L45 (F : Nat) : ∀ (lf_45 : Nat) (cs1 : CS) (u0 : Nat) (u1 : Int32) (u2 : Int32) (u3 : Int32) (u4 : Int32) (u5 : Int32) (cs9 : CS), c_X8_sort_L45 F lf_45 cs1 u0 u1 u2 u3 u4 u5 = some cs9 → kK cs1 ≤ kK cs9 ∧ kM cs1 ≤ kM cs9 := by
  intro lf_45
  induction lf_45 with
  | zero => intro cs1 u0 u1 u2 u3 u4 u5 cs9 h; cases (show (none : Option CS) = _ from h)
  | succ lf_45 ih_45 =>
    intro cs1 u0 u1 u2 u3 u4 u5 cs9 h
    rw [c_X8_sort_L45] at h
    by_cases c_16 : u2 ≤ u5
    · skip
      replace h := (if_pos c_16).symm.trans h
      obtain ⟨k9, m9⟩ := mo_c_X8_sort_L73 F F cs1 u0 u1 u2 u3 u4 1 cs9 h
      exact ⟨by omega, by omega⟩
    · skip
      replace h := (if_neg c_16).symm.trans h
      replace h := ob h; obtain ⟨v_17, hv_17, h⟩ := h
      replace h := ob h; obtain ⟨cs_18, hv_18, h⟩ := h
      obtain ⟨qk_18, qm_18⟩ := wA_k hv_18
      obtain ⟨k9, m9⟩ := ih_45 cs_18 u0 u1 u2 u3 u4 (u5 + 1) cs9 h
      exact ⟨by omega, by omega⟩
theorem mo_c_X8_sort_b42 (F : Nat) (cs1 : CS) (u0 : Nat) (u1 : Int32) (u2 : Int32) (u3 : Int32) (u4 : Int32) (cs9 : CS) (h : c_X8_sort_b42 F cs1 u0 u1 u2 u3 u4 = some cs9) : kK cs1 ≤ kK cs9 ∧ kM cs1 ≤ kM cs9 := by
  unfold c_X8_sort_b42 at h
  obtain ⟨k9, m9⟩ := mo_c_X8_sort_L45 F F cs1 u0 u1 u2 u3 u4 0 cs9 h
  exact ⟨by omega, by omega⟩
theorem mo_c_X8_sort_b33 (F : Nat) (cs1 : CS) (u0 : Nat) (u1 : Int32) (u2 : Int32) (u3 : Int32) (u4 : Int32) (cs9 : CS) (h : c_X8_sort_b33 F cs1 u0 u1 u2 u3 u4 = some cs9) : kK cs1 ≤ kK cs9 ∧ kM cs1 ≤ kM cs9 := by
  unfold c_X8_sort_b33 at h
  replace h := ob h; obtain ⟨cs_16, hv_16, h⟩ := h
  obtain ⟨qk_16, qm_16⟩ := nwA_k hv_16
  obtain ⟨k9, m9⟩ := mo_c_X8_sort_b42 F cs_16 u0 u1 u2 u3 u4 cs9 h
  exact ⟨by omega, by omega⟩
theorem mo_c_X8_sort_b24 (F : Nat) (cs1 : CS) (u0 : Nat) (u1 : Int32) (u2 : Int32) (u3 : Int32) (u4 : Int32) (cs9 : CS) (h : c_X8_sort_b24 F cs1 u0 u1 u2 u3 u4 = some cs9) : kK cs1 ≤ kK cs9 ∧ kM cs1 ≤ kM cs9 := by
  unfold c_X8_sort_b24 at h
  replace h := ob h; obtain ⟨cs_16, hv_16, h⟩ := h
  obtain ⟨qk_16, qm_16⟩ := nwA_k hv_16
  obtain ⟨k9, m9⟩ := mo_c_X8_sort_b33 F cs_16 u0 u1 u2 u3 u4 cs9 h
  exact ⟨by omega, by omega⟩
theorem mo_c_X8_sort (F : Nat) (cs : CS) (x0 : Nat) (x1 : Int32) (x2 : Int32) (x3 : Int32) (x4 : Int32) (cs9 : CS) (h : c_X8_sort F cs x0 x1 x2 x3 x4 = some cs9) : kK cs ≤ kK cs9 ∧ kM cs ≤ kM cs9 := by
  unfold c_X8_sort at h
  by_cases c_16 : 2 ≤ x2
  · skip
    replace h := (if_pos c_16).symm.trans h
    replace h := ob h; obtain ⟨v_17, hv_17, h⟩ := h
    replace h := ob h; obtain ⟨v_18, hv_18, h⟩ := h
    by_cases c_19 : v_18 < x2
    · skip
      replace h := (if_pos c_19).symm.trans h
      obtain ⟨k9, m9⟩ := mo_c_X8_sort_b24 F cs x0 x1 x2 x3 x4 cs9 h
      exact ⟨by omega, by omega⟩
    · skip
      replace h := (if_neg c_19).symm.trans h
      replace h := ob h; obtain ⟨v_20, hv_20, h⟩ := h
      replace h := ob h; obtain ⟨v_21, hv_21, h⟩ := h
      by_cases c_22 : x2 ≤ v_21
      · skip
        replace h := (if_pos c_22).symm.trans h
        obtain ⟨k9, m9⟩ := mo_c_X8_sort_b42 F cs x0 x1 x2 x3 x4 cs9 h
        exact ⟨by omega, by omega⟩
      · skip
        replace h := (if_neg c_22).symm.trans h
        obtain ⟨k9, m9⟩ := mo_c_X8_sort_b24 F cs x0 x1 x2 x3 x4 cs9 h
        exact ⟨by omega, by omega⟩
  · skip
    replace h := (if_neg c_16).symm.trans h
    have h9 := Option.some.inj h
    have k9 := congrArg kK h9; have m9 := congrArg kM h9; exact ⟨by omega, by omega⟩
set_option maxHeartbeats 4000000 in
set_option maxRecDepth 100000 in
theorem sa_X8_sort (l : Launch) (dC : Nat → ClassId) (dI : Nat → Nat → Nat) (cB cI cJ cZ cS cO : ClassId) (b : Nat) (K V : Nat → Nat) (fz : Value) (F : Nat) (cs : CS) (x0 : Nat) (x1 : Int32) (x2 : Int32) (x3 : Int32) (x4 : Int32) (cs9 : CS) (hf : c_X8_sort F cs x0 x1 x2 x3 x4 = some cs9) : oaV l dC dI cB cI cJ cZ cS cO b K V fz yX8_sort (wsOf yX8_sort cX8_sort 7 none) (5) [.ref (b + x0), .int x1, .int x2, .int x3, .int x4] cs cs9 := by
  obtain ⟨kb9, mb9⟩ := mo_c_X8_sort F cs x0 x1 x2 x3 x4 cs9 hf
  refine ⟨⟨kb9, mb9⟩, ?_⟩
  refine Met.ofW (cc := cX8_sort) (maxL := 7) (ret := none) (by decide) rfl ?_
  intro p e s m args below meth c s₁ B hml hv
  obtain ⟨rfl, hsz, hP, hK, hD0, hZ⟩ := hv
  have hx := B.exec
  have hb := B.bytes
  have hr := B.returns
  have hts := atoms_spec (ws := (wsOf yX8_sort cX8_sort 7 none)) B.pre
  have hown : s.vm.findClass RX8 = some m.cls := findClass_of_methodNamed B.named
  have hlocks := B.notSynchronized
  have hD := hD0.self (sz := b + kK cs)
  generalize hAe : va_A (cW cB cI cJ cZ cS cO b cs) (b + kK cs) = A at hD hZ ⊢
  have hA : ∀ q : Nat, s.heap.size ≤ q → A q := fun q h => by rw [← hAe]; exact Or.inr (by omega)
  have hS : va_S A s.heap s.heap [] := va_S.rf
  have hG : va_S A s.heap s.heap [] := va_S.rf
  have hgz : s.heap.size = b + kK cs := hsz
  have hl := lv_entry ([.ref (b + x0), .int x1, .int x2, .int x3, .int x4]) (n := 7) (Nat.le_of_ble_eq_true rfl)
  rw [lg_entry_eq]
  generalize (lg_sl ([.ref (b + x0), .int x1, .int x2, .int x3, .int x4]) ++ List.replicate (7 - (lg_sl ([.ref (b + x0), .int x1, .int x2, .int x3, .int x4])).length) Slot.unset).toArray = ls at hl ⊢
  have hl : lv_has ls 7 [(0, .ref (b + x0)), (1, .int x1), (2, .int x2), (3, .int x3), (4, .int x4)] := hl
  have B_149 : ∀ (cs1 : CS) , c_X8_sort_b149 F cs1 = some cs9 → kK cs ≤ kK cs1 → kM cs ≤ kM cs1 → ∀ (Gh H : Heap) (locs : List Loc) (ls : Array Slot), va_P (dC, dI) vwCl (cW cB cI cJ cZ cS cO b cs1) H → va_D A (cW cB cI cJ cZ cS cO b cs1) → va_S A s.heap Gh [] → Gh.size = b + kK cs1 → va_S A Gh H locs → lv_has ls 7 [] → W p l e (headSpec (wsOf yX8_sort cX8_sort 7 none) ({ frames := 5, cells := kK cs9 - kK cs, slots := kM cs9 - kM cs, locals := 60 * (5) } : Room)).room s m ([.ref (b + x0), .int x1, .int x2, .int x3, .int x4] : List Value).toArray below meth c H locs (kK cs1 - kK cs) (kM cs1 - kM cs) (MQ below (va_Qv (fun (_ : Unit) => True) (fun _ t_ => va_P (dC, dI) vwCl (cW cB cI cJ cZ cS cO b cs9) t_.heap ∧ va_D A (cW cB cI cJ cZ cS cO b cs9) ∧ b + kK cs9 ≤ t_.heap.size) A) ([.ref (b + x0), .int x1, .int x2, .int x3, .int x4] : List Value).toArray s (kK cs9 - kK cs) (kM cs9 - kM cs) A) (F0 m 149 ls []) := by
    intro cs1  h hmk hmm Gh H locs ls hP hD hG hgz hS hl
    obtain ⟨kb9, mb9⟩ := mo_c_X8_sort_b149 F cs1  cs9 h
    unfold c_X8_sort_b149 at h
    have e1 := Option.some.inj h
    rw [e1] at hP hD
    have e3 := congrArg kK e1
    have e4 := congrArg kM e1
    refine W_cnt (c2 := kK cs9 - kK cs) (n2 := kM cs9 - kM cs) (by omega) (by omega) ?_
    exact W.vret hx hb hr (fun t_ ht hW => ⟨⟨(), rfl, trivial, by rw [ht]; exact hP, hD, by rw [ht]; have := hS.1; omega⟩, (hG.comp hS).F ht⟩) (hG.comp hS).2.2 dX8_sort_149
  have L_108 : ∀ (lf_108 : Nat), ∀ (cs1 : CS) (u0 : Nat) (u1 : Int32) (u2 : Int32) (u3 : Int32) (u5 : Int32) (u6 : Int32), c_X8_sort_L108 F lf_108 cs1 u0 u1 u2 u3 u5 u6 = some cs9 → kK cs ≤ kK cs1 → kM cs ≤ kM cs1 → ∀ (Gh H : Heap) (locs : List Loc) (ls : Array Slot), va_P (dC, dI) vwCl (cW cB cI cJ cZ cS cO b cs1) H → va_D A (cW cB cI cJ cZ cS cO b cs1) → va_S A s.heap Gh [] → Gh.size = b + kK cs1 → va_S A Gh H locs → lv_has ls 7 [(0, .ref (b + u0)), (1, .int u1), (2, .int u2), (3, .int u3), (5, .int u5), (6, .int u6)] → W p l e (headSpec (wsOf yX8_sort cX8_sort 7 none) ({ frames := 5, cells := kK cs9 - kK cs, slots := kM cs9 - kM cs, locals := 60 * (5) } : Room)).room s m ([.ref (b + x0), .int x1, .int x2, .int x3, .int x4] : List Value).toArray below meth c H locs (kK cs1 - kK cs) (kM cs1 - kM cs) (MQ below (va_Qv (fun (_ : Unit) => True) (fun _ t_ => va_P (dC, dI) vwCl (cW cB cI cJ cZ cS cO b cs9) t_.heap ∧ va_D A (cW cB cI cJ cZ cS cO b cs9) ∧ b + kK cs9 ≤ t_.heap.size) A) ([.ref (b + x0), .int x1, .int x2, .int x3, .int x4] : List Value).toArray s (kK cs9 - kK cs) (kM cs9 - kM cs) A) (F0 m 108 ls []) := by
    intro lf_108
    induction lf_108 with
    | zero => intro cs1 u0 u1 u2 u3 u5 u6 h; cases (show (none : Option CS) = _ from h)
    | succ lf_108 ih_108 =>
      have B_133 : ∀ (cs1 : CS) (u0 : Nat) (u1 : Int32) (u2 : Int32) (u3 : Int32) (u5 : Int32) (u6 : Int32), c_X8_sort_b133 F (c_X8_sort_L108 F lf_108) cs1 u0 u1 u2 u3 u5 u6 = some cs9 → kK cs ≤ kK cs1 → kM cs ≤ kM cs1 → ∀ (Gh H : Heap) (locs : List Loc) (ls : Array Slot), va_P (dC, dI) vwCl (cW cB cI cJ cZ cS cO b cs1) H → va_D A (cW cB cI cJ cZ cS cO b cs1) → va_S A s.heap Gh [] → Gh.size = b + kK cs1 → va_S A Gh H locs → lv_has ls 7 [(0, .ref (b + u0)), (1, .int u1), (2, .int u2), (3, .int u3), (5, .int u5), (6, .int u6)] → W p l e (headSpec (wsOf yX8_sort cX8_sort 7 none) ({ frames := 5, cells := kK cs9 - kK cs, slots := kM cs9 - kM cs, locals := 60 * (5) } : Room)).room s m ([.ref (b + x0), .int x1, .int x2, .int x3, .int x4] : List Value).toArray below meth c H locs (kK cs1 - kK cs) (kM cs1 - kM cs) (MQ below (va_Qv (fun (_ : Unit) => True) (fun _ t_ => va_P (dC, dI) vwCl (cW cB cI cJ cZ cS cO b cs9) t_.heap ∧ va_D A (cW cB cI cJ cZ cS cO b cs9) ∧ b + kK cs9 ≤ t_.heap.size) A) ([.ref (b + x0), .int x1, .int x2, .int x3, .int x4] : List Value).toArray s (kK cs9 - kK cs) (kM cs9 - kM cs) A) (F0 m 133 ls []) := by
        intro cs1 u0 u1 u2 u3 u5 u6 h hmk hmm Gh H locs ls hP hD hG hgz hS hl
        obtain ⟨kb9, mb9⟩ := mo_c_X8_sort_b133 F (c_X8_sort_L108 F lf_108) (mo_c_X8_sort_L108 F lf_108) cs1 u0 u1 u2 u3 u5 u6 cs9 h
        unfold c_X8_sort_b133 at h
        refine lv_iinc (v := u6 + 1) (lv' := [(6, .int (u6 + 1)), (0, .ref (b + u0)), (1, .int u1), (2, .int u2), (3, .int u3), (5, .int u5)]) hx hb dX8_sort_133 hl (k := 5) rfl rfl (by decide) rfl (fun ls hl => ?_)
        refine lv_goto (tgt := 108) hx hb dX8_sort_136 (by decide) ?_
        refine W_cnt (c2 := kK cs1 - kK cs) (n2 := kM cs1 - kM cs) (by omega) (by omega) ?_
        exact ih_108 cs1 u0 u1 u2 u3 u5 (u6 + 1) h (by omega) (by omega) _ _ _ _ hP hD hG (by omega) hS (lv_sub hl [1, 2, 3, 4, 5, 0] rfl)
      intro cs1 u0 u1 u2 u3 u5 u6 h hmk hmm Gh H locs ls hP hD hG hgz hS hl
      obtain ⟨kb9, mb9⟩ := mo_c_X8_sort_L108 F (lf_108 + 1) cs1 u0 u1 u2 u3 u5 u6 cs9 h
      rw [c_X8_sort_L108] at h
      refine lv_iload hx hb dX8_sort_108 (lv_at hl 5 rfl) ?_
      refine lv_iload_n hx hb dX8_sort_110 rfl (lv_at hl 2 rfl) ?_
      refine lv_icmp_ge (tgt := 139) hx hb dX8_sort_111 (by decide) (fun c_1 => ?_) (fun c_1 => ?_)
      · skip
        replace h := (if_pos c_1).symm.trans h
        refine lv_aload_n hx hb dX8_sort_139 rfl (lv_at hl 0 rfl) ?_
        refine lv_iload hx hb dX8_sort_140 (lv_at hl 4 rfl) ?_
        refine lv_iload_n hx hb dX8_sort_142 rfl (lv_at hl 1 rfl) ?_
        refine lv_iload_n hx hb dX8_sort_143 rfl (lv_at hl 2 rfl) ?_
        refine lv_iload_n hx hb dX8_sort_144 rfl (lv_at hl 3 rfl) ?_
        refine lv_imul hx hb dX8_sort_145 ?_
        replace h := ob h; obtain ⟨w_3, hw_3, h⟩ := h
        replace h := ob h; obtain ⟨cs_2, hv_2, h⟩ := h
        obtain ⟨qk_2, qm_2⟩ := mo_c_X8_copy F cs1 u0 u5 u1 (u2 * u3) cs_2 hv_2
        obtain ⟨k9_2, m9_2⟩ := mo_c_X8_sort_b149 F cs_2 cs9 h
        refine cavV (As := [.int u5, .int u1, .int (u2 * u3)]) hx hb hml hts hown hK hP hD hS hG hA (by omega) (by omega) hZ (X := 9) (by decide) rfl (ckE_some hw_3) (sa_X8_copy l dC dI cB cI cJ cZ cS cO b K V fz F cs1 u0 u5 u1 (u2 * u3) cs_2 hv_2) (cw_X8_X8_copy hts (fr := 4) (Nat.le_of_ble_eq_true rfl) (Nat.le_of_ble_eq_true rfl)) rfl hl.1 (Nat.le_of_ble_eq_true rfl) ⟨by show kK cs1 - kK cs + (kK cs_2 - kK cs1) ≤ kK cs9 - kK cs; omega, by show kM cs1 - kM cs + (kM cs_2 - kM cs1) ≤ kM cs9 - kM cs; omega⟩ dX8_sort_146 (fun H locs hP hD hG hgz hS => ?_)
        refine W_cnt (c2 := kK cs_2 - kK cs) (n2 := kM cs_2 - kM cs) (by omega) (by omega) ?_
        exact B_149 cs_2 h (by omega) (by omega) _ _ _ _ hP hD hG (by omega) hS (lv_sub hl [] rfl)
      · skip
        replace h := (if_neg c_1).symm.trans h
        refine lv_aload_n hx hb dX8_sort_114 rfl (lv_at hl 0 rfl) ?_
        refine lv_aload_n hx hb dX8_sort_115 rfl (lv_at hl 0 rfl) ?_
        replace h := ob h; obtain ⟨v_4, hv_4, h⟩ := h
        refine fg_X8_19 hx hb hts hown hK hP hv_4 dX8_sort_116 ?_
        refine lv_iload hx hb dX8_sort_119 (lv_at hl 5 rfl) ?_
        replace h := ob h; obtain ⟨v_5, hv_5, h⟩ := h
        refine ald0 hx hb hK hP rfl hv_5 dX8_sort_121 ?_
        refine lv_iload hx hb dX8_sort_122 (lv_at hl 4 rfl) ?_
        refine lv_iload hx hb dX8_sort_124 (lv_at hl 5 rfl) ?_
        refine lv_iload_n hx hb dX8_sort_126 rfl (lv_at hl 3 rfl) ?_
        refine lv_imul hx hb dX8_sort_127 ?_
        refine lv_iadd hx hb dX8_sort_128 ?_
        refine lv_iload_n hx hb dX8_sort_129 rfl (lv_at hl 3 rfl) ?_
        replace h := ob h; obtain ⟨w_7, hw_7, h⟩ := h
        replace h := ob h; obtain ⟨cs_6, hv_6, h⟩ := h
        obtain ⟨qk_6, qm_6⟩ := mo_c_X8_copy F cs1 u0 v_5 (u5 + (u6 * u3)) u3 cs_6 hv_6
        obtain ⟨k9_6, m9_6⟩ := mo_c_X8_sort_b133 F (c_X8_sort_L108 F lf_108) (mo_c_X8_sort_L108 F lf_108) cs_6 u0 u1 u2 u3 u5 u6 cs9 h
        refine cavV (As := [.int v_5, .int (u5 + (u6 * u3)), .int u3]) hx hb hml hts hown hK hP hD hS hG hA (by omega) (by omega) hZ (X := 9) (by decide) rfl (ckE_some hw_7) (sa_X8_copy l dC dI cB cI cJ cZ cS cO b K V fz F cs1 u0 v_5 (u5 + (u6 * u3)) u3 cs_6 hv_6) (cw_X8_X8_copy hts (fr := 4) (Nat.le_of_ble_eq_true rfl) (Nat.le_of_ble_eq_true rfl)) rfl hl.1 (Nat.le_of_ble_eq_true rfl) ⟨by show kK cs1 - kK cs + (kK cs_6 - kK cs1) ≤ kK cs9 - kK cs; omega, by show kM cs1 - kM cs + (kM cs_6 - kM cs1) ≤ kM cs9 - kM cs; omega⟩ dX8_sort_130 (fun H locs hP hD hG hgz hS => ?_)
        refine W_cnt (c2 := kK cs_6 - kK cs) (n2 := kM cs_6 - kM cs) (by omega) (by omega) ?_
        exact B_133 cs_6 u0 u1 u2 u3 u5 u6 h (by omega) (by omega) _ _ _ _ hP hD hG (by omega) hS (lv_sub hl [0, 1, 2, 3, 4, 5] rfl)
  have L_73 : ∀ (lf_73 : Nat), ∀ (cs1 : CS) (u0 : Nat) (u1 : Int32) (u2 : Int32) (u3 : Int32) (u4 : Int32) (u5 : Int32), c_X8_sort_L73 F lf_73 cs1 u0 u1 u2 u3 u4 u5 = some cs9 → kK cs ≤ kK cs1 → kM cs ≤ kM cs1 → ∀ (Gh H : Heap) (locs : List Loc) (ls : Array Slot), va_P (dC, dI) vwCl (cW cB cI cJ cZ cS cO b cs1) H → va_D A (cW cB cI cJ cZ cS cO b cs1) → va_S A s.heap Gh [] → Gh.size = b + kK cs1 → va_S A Gh H locs → lv_has ls 7 [(0, .ref (b + u0)), (1, .int u1), (2, .int u2), (3, .int u3), (4, .int u4), (5, .int u5)] → W p l e (headSpec (wsOf yX8_sort cX8_sort 7 none) ({ frames := 5, cells := kK cs9 - kK cs, slots := kM cs9 - kM cs, locals := 60 * (5) } : Room)).room s m ([.ref (b + x0), .int x1, .int x2, .int x3, .int x4] : List Value).toArray below meth c H locs (kK cs1 - kK cs) (kM cs1 - kM cs) (MQ below (va_Qv (fun (_ : Unit) => True) (fun _ t_ => va_P (dC, dI) vwCl (cW cB cI cJ cZ cS cO b cs9) t_.heap ∧ va_D A (cW cB cI cJ cZ cS cO b cs9) ∧ b + kK cs9 ≤ t_.heap.size) A) ([.ref (b + x0), .int x1, .int x2, .int x3, .int x4] : List Value).toArray s (kK cs9 - kK cs) (kM cs9 - kM cs) A) (F0 m 73 ls []) := by
    intro lf_73
    induction lf_73 with
    | zero => intro cs1 u0 u1 u2 u3 u4 u5 h; cases (show (none : Option CS) = _ from h)
    | succ lf_73 ih_73 =>
      intro cs1 u0 u1 u2 u3 u4 u5 h hmk hmm Gh H locs ls hP hD hG hgz hS hl
      obtain ⟨kb9, mb9⟩ := mo_c_X8_sort_L73 F (lf_73 + 1) cs1 u0 u1 u2 u3 u4 u5 cs9 h
      rw [c_X8_sort_L73] at h
      refine lv_iload hx hb dX8_sort_73 (lv_at hl 5 rfl) ?_
      refine lv_iload_n hx hb dX8_sort_75 rfl (lv_at hl 2 rfl) ?_
      refine lv_icmp_ge (tgt := 98) hx hb dX8_sort_76 (by decide) (fun c_8 => ?_) (fun c_8 => ?_)
      · skip
        replace h := (if_pos c_8).symm.trans h
        refine lv_iload_n hx hb dX8_sort_98 rfl (lv_at hl 1 rfl) ?_
        refine lv_iload_n hx hb dX8_sort_99 rfl (lv_at hl 2 rfl) ?_
        refine lv_iload_n hx hb dX8_sort_100 rfl (lv_at hl 3 rfl) ?_
        refine lv_imul hx hb dX8_sort_101 ?_
        refine lv_iadd hx hb dX8_sort_102 ?_
        refine lv_istore (lv' := [(5, .int (u1 + (u2 * u3))), (0, .ref (b + u0)), (1, .int u1), (2, .int u2), (3, .int u3), (4, .int u4)]) hx hb dX8_sort_103 hl (by decide) rfl (fun ls hl => ?_)
        refine lv_iconst (v := 0) hx hb dX8_sort_105 (by decide) ?_
        refine lv_istore (lv' := [(6, .int 0), (5, .int (u1 + (u2 * u3))), (0, .ref (b + u0)), (1, .int u1), (2, .int u2), (3, .int u3), (4, .int u4)]) hx hb dX8_sort_106 hl (by decide) rfl (fun ls hl => ?_)
        refine W_cnt (c2 := kK cs1 - kK cs) (n2 := kM cs1 - kM cs) (by omega) (by omega) ?_
        exact L_108 F cs1 u0 u1 u2 u3 (u1 + (u2 * u3)) 0 h (by omega) (by omega) _ _ _ _ hP hD hG (by omega) hS (lv_sub hl [2, 3, 4, 5, 1, 0] rfl)
      · skip
        replace h := (if_neg c_8).symm.trans h
        refine lv_aload_n hx hb dX8_sort_79 rfl (lv_at hl 0 rfl) ?_
        refine lv_iload hx hb dX8_sort_80 (lv_at hl 5 rfl) ?_
        refine lv_iload_n hx hb dX8_sort_82 rfl (lv_at hl 2 rfl) ?_
        refine lv_iload_n hx hb dX8_sort_83 rfl (lv_at hl 3 rfl) ?_
        refine lv_iload hx hb dX8_sort_84 (lv_at hl 4 rfl) ?_
        replace h := ob h; obtain ⟨w_10, hw_10, h⟩ := h
        replace h := ob h; obtain ⟨cs_9, hv_9, h⟩ := h
        obtain ⟨qk_9, qm_9⟩ := k_of (mo_c_X8_mergeRuns F cs1 u0 u5 u2 u3 u4 cs_9 hv_9)
        refine cbvV (As := [.int u5, .int u2, .int u3, .int u4]) hx hb hml hts hown hK hP hD hS hG hA (by omega) (by omega) hZ (X := 9) (by decide) rfl (ckE_some hw_10) (sc_X8_mergeRuns l dC dI cB cI cJ cZ cS cO b K V fz F cs1 u0 u5 u2 u3 u4 cs_9 hv_9) (cw_X8_X8_mergeRuns hts (fr := 2) (Nat.le_of_ble_eq_true rfl) (Nat.le_of_ble_eq_true rfl)) rfl hl.1 (Nat.le_of_ble_eq_true rfl) ⟨by show kK cs1 - kK cs ≤ kK cs9 - kK cs; omega, by show kM cs1 - kM cs ≤ kM cs9 - kM cs; omega⟩ dX8_sort_86 (fun H locs hP hD hG hgz hS => ?_)
        refine lv_iload hx hb dX8_sort_89 (lv_at hl 5 rfl) ?_
        refine lv_iconst (v := 2) hx hb dX8_sort_91 (by decide) ?_
        refine lv_imul hx hb dX8_sort_92 ?_
        refine lv_istore (lv' := [(5, .int (u5 * 2)), (0, .ref (b + u0)), (1, .int u1), (2, .int u2), (3, .int u3), (4, .int u4)]) hx hb dX8_sort_93 hl (by decide) rfl (fun ls hl => ?_)
        refine lv_goto (tgt := 73) hx hb dX8_sort_95 (by decide) ?_
        refine W_cnt (c2 := kK cs_9 - kK cs) (n2 := kM cs_9 - kM cs) (by omega) (by omega) ?_
        exact ih_73 cs_9 u0 u1 u2 u3 u4 (u5 * 2) h (by omega) (by omega) _ _ _ _ hP hD hG (by omega) hS (lv_sub hl [1, 2, 3, 4, 5, 0] rfl)
  have L_45 : ∀ (lf_45 : Nat), ∀ (cs1 : CS) (u0 : Nat) (u1 : Int32) (u2 : Int32) (u3 : Int32) (u4 : Int32) (u5 : Int32), c_X8_sort_L45 F lf_45 cs1 u0 u1 u2 u3 u4 u5 = some cs9 → kK cs ≤ kK cs1 → kM cs ≤ kM cs1 → ∀ (Gh H : Heap) (locs : List Loc) (ls : Array Slot), va_P (dC, dI) vwCl (cW cB cI cJ cZ cS cO b cs1) H → va_D A (cW cB cI cJ cZ cS cO b cs1) → va_S A s.heap Gh [] → Gh.size = b + kK cs1 → va_S A Gh H locs → lv_has ls 7 [(0, .ref (b + u0)), (1, .int u1), (2, .int u2), (3, .int u3), (4, .int u4), (5, .int u5)] → W p l e (headSpec (wsOf yX8_sort cX8_sort 7 none) ({ frames := 5, cells := kK cs9 - kK cs, slots := kM cs9 - kM cs, locals := 60 * (5) } : Room)).room s m ([.ref (b + x0), .int x1, .int x2, .int x3, .int x4] : List Value).toArray below meth c H locs (kK cs1 - kK cs) (kM cs1 - kM cs) (MQ below (va_Qv (fun (_ : Unit) => True) (fun _ t_ => va_P (dC, dI) vwCl (cW cB cI cJ cZ cS cO b cs9) t_.heap ∧ va_D A (cW cB cI cJ cZ cS cO b cs9) ∧ b + kK cs9 ≤ t_.heap.size) A) ([.ref (b + x0), .int x1, .int x2, .int x3, .int x4] : List Value).toArray s (kK cs9 - kK cs) (kM cs9 - kM cs) A) (F0 m 45 ls []) := by
    intro lf_45
    induction lf_45 with
    | zero => intro cs1 u0 u1 u2 u3 u4 u5 h; cases (show (none : Option CS) = _ from h)
    | succ lf_45 ih_45 =>
      intro cs1 u0 u1 u2 u3 u4 u5 h hmk hmm Gh H locs ls hP hD hG hgz hS hl
      obtain ⟨kb9, mb9⟩ := mo_c_X8_sort_L45 F (lf_45 + 1) cs1 u0 u1 u2 u3 u4 u5 cs9 h
      rw [c_X8_sort_L45] at h
      refine lv_iload hx hb dX8_sort_45 (lv_at hl 5 rfl) ?_
      refine lv_iload_n hx hb dX8_sort_47 rfl (lv_at hl 2 rfl) ?_
      refine lv_icmp_ge (tgt := 70) hx hb dX8_sort_48 (by decide) (fun c_11 => ?_) (fun c_11 => ?_)
      · skip
        replace h := (if_pos c_11).symm.trans h
        refine lv_iconst (v := 1) hx hb dX8_sort_70 (by decide) ?_
        refine lv_istore (lv' := [(5, .int 1), (0, .ref (b + u0)), (1, .int u1), (2, .int u2), (3, .int u3), (4, .int u4)]) hx hb dX8_sort_71 hl (by decide) rfl (fun ls hl => ?_)
        refine W_cnt (c2 := kK cs1 - kK cs) (n2 := kM cs1 - kM cs) (by omega) (by omega) ?_
        exact L_73 F cs1 u0 u1 u2 u3 u4 1 h (by omega) (by omega) _ _ _ _ hP hD hG (by omega) hS (lv_sub hl [1, 2, 3, 4, 5, 0] rfl)
      · skip
        replace h := (if_neg c_11).symm.trans h
        refine lv_aload_n hx hb dX8_sort_51 rfl (lv_at hl 0 rfl) ?_
        replace h := ob h; obtain ⟨v_12, hv_12, h⟩ := h
        refine fg_X8_19 hx hb hts hown hK hP hv_12 dX8_sort_52 ?_
        refine lv_iload hx hb dX8_sort_55 (lv_at hl 5 rfl) ?_
        refine lv_iload_n hx hb dX8_sort_57 rfl (lv_at hl 1 rfl) ?_
        refine lv_iload hx hb dX8_sort_58 (lv_at hl 5 rfl) ?_
        refine lv_iload_n hx hb dX8_sort_60 rfl (lv_at hl 3 rfl) ?_
        refine lv_imul hx hb dX8_sort_61 ?_
        refine lv_iadd hx hb dX8_sort_62 ?_
        replace h := ob h; obtain ⟨cs_13, hv_13, h⟩ := h
        obtain ⟨qk_13, qm_13⟩ := wA_k hv_13
        refine ast0 hx hb hK hP hD hS rfl hv_13 dX8_sort_63 (fun H locs hP hD hS => ?_)
        refine lv_iinc (v := u5 + 1) (lv' := [(5, .int (u5 + 1)), (0, .ref (b + u0)), (1, .int u1), (2, .int u2), (3, .int u3), (4, .int u4)]) hx hb dX8_sort_64 hl (k := 5) rfl rfl (by decide) rfl (fun ls hl => ?_)
        refine lv_goto (tgt := 45) hx hb dX8_sort_67 (by decide) ?_
        refine W_cnt (c2 := kK cs_13 - kK cs) (n2 := kM cs_13 - kM cs) (by omega) (by omega) ?_
        exact ih_45 cs_13 u0 u1 u2 u3 u4 (u5 + 1) h (by omega) (by omega) _ _ _ _ hP hD hG (by omega) hS (lv_sub hl [1, 2, 3, 4, 5, 0] rfl)
  have B_42 : ∀ (cs1 : CS) (u0 : Nat) (u1 : Int32) (u2 : Int32) (u3 : Int32) (u4 : Int32), c_X8_sort_b42 F cs1 u0 u1 u2 u3 u4 = some cs9 → kK cs ≤ kK cs1 → kM cs ≤ kM cs1 → ∀ (Gh H : Heap) (locs : List Loc) (ls : Array Slot), va_P (dC, dI) vwCl (cW cB cI cJ cZ cS cO b cs1) H → va_D A (cW cB cI cJ cZ cS cO b cs1) → va_S A s.heap Gh [] → Gh.size = b + kK cs1 → va_S A Gh H locs → lv_has ls 7 [(0, .ref (b + u0)), (1, .int u1), (2, .int u2), (3, .int u3), (4, .int u4)] → W p l e (headSpec (wsOf yX8_sort cX8_sort 7 none) ({ frames := 5, cells := kK cs9 - kK cs, slots := kM cs9 - kM cs, locals := 60 * (5) } : Room)).room s m ([.ref (b + x0), .int x1, .int x2, .int x3, .int x4] : List Value).toArray below meth c H locs (kK cs1 - kK cs) (kM cs1 - kM cs) (MQ below (va_Qv (fun (_ : Unit) => True) (fun _ t_ => va_P (dC, dI) vwCl (cW cB cI cJ cZ cS cO b cs9) t_.heap ∧ va_D A (cW cB cI cJ cZ cS cO b cs9) ∧ b + kK cs9 ≤ t_.heap.size) A) ([.ref (b + x0), .int x1, .int x2, .int x3, .int x4] : List Value).toArray s (kK cs9 - kK cs) (kM cs9 - kM cs) A) (F0 m 42 ls []) := by
    intro cs1 u0 u1 u2 u3 u4 h hmk hmm Gh H locs ls hP hD hG hgz hS hl
    obtain ⟨kb9, mb9⟩ := mo_c_X8_sort_b42 F cs1 u0 u1 u2 u3 u4 cs9 h
    unfold c_X8_sort_b42 at h
    refine lv_iconst (v := 0) hx hb dX8_sort_42 (by decide) ?_
    refine lv_istore (lv' := [(5, .int 0), (0, .ref (b + u0)), (1, .int u1), (2, .int u2), (3, .int u3), (4, .int u4)]) hx hb dX8_sort_43 hl (by decide) rfl (fun ls hl => ?_)
    refine W_cnt (c2 := kK cs1 - kK cs) (n2 := kM cs1 - kM cs) (by omega) (by omega) ?_
    exact L_45 F cs1 u0 u1 u2 u3 u4 0 h (by omega) (by omega) _ _ _ _ hP hD hG (by omega) hS (lv_sub hl [1, 2, 3, 4, 5, 0] rfl)
  have B_33 : ∀ (cs1 : CS) (u0 : Nat) (u1 : Int32) (u2 : Int32) (u3 : Int32) (u4 : Int32), c_X8_sort_b33 F cs1 u0 u1 u2 u3 u4 = some cs9 → kK cs ≤ kK cs1 → kM cs ≤ kM cs1 → ∀ (Gh H : Heap) (locs : List Loc) (ls : Array Slot), va_P (dC, dI) vwCl (cW cB cI cJ cZ cS cO b cs1) H → va_D A (cW cB cI cJ cZ cS cO b cs1) → va_S A s.heap Gh [] → Gh.size = b + kK cs1 → va_S A Gh H locs → lv_has ls 7 [(0, .ref (b + u0)), (1, .int u1), (2, .int u2), (3, .int u3), (4, .int u4)] → W p l e (headSpec (wsOf yX8_sort cX8_sort 7 none) ({ frames := 5, cells := kK cs9 - kK cs, slots := kM cs9 - kM cs, locals := 60 * (5) } : Room)).room s m ([.ref (b + x0), .int x1, .int x2, .int x3, .int x4] : List Value).toArray below meth c H locs (kK cs1 - kK cs) (kM cs1 - kM cs) (MQ below (va_Qv (fun (_ : Unit) => True) (fun _ t_ => va_P (dC, dI) vwCl (cW cB cI cJ cZ cS cO b cs9) t_.heap ∧ va_D A (cW cB cI cJ cZ cS cO b cs9) ∧ b + kK cs9 ≤ t_.heap.size) A) ([.ref (b + x0), .int x1, .int x2, .int x3, .int x4] : List Value).toArray s (kK cs9 - kK cs) (kM cs9 - kM cs) A) (F0 m 33 ls []) := by
    intro cs1 u0 u1 u2 u3 u4 h hmk hmm Gh H locs ls hP hD hG hgz hS hl
    obtain ⟨kb9, mb9⟩ := mo_c_X8_sort_b33 F cs1 u0 u1 u2 u3 u4 cs9 h
    unfold c_X8_sort_b33 at h
    refine lv_aload_n hx hb dX8_sort_33 rfl (lv_at hl 0 rfl) ?_
    refine lv_iconst (v := 2) hx hb dX8_sort_34 (by decide) ?_
    refine lv_iload_n hx hb dX8_sort_35 rfl (lv_at hl 2 rfl) ?_
    refine lv_imul hx hb dX8_sort_36 ?_
    replace h := ob h; obtain ⟨cs_14, hv_14, h⟩ := h
    obtain ⟨qk_14, qm_14⟩ := nwA_k hv_14
    obtain ⟨k9_14, m9_14⟩ := mo_c_X8_sort_b42 F cs_14 u0 u1 u2 u3 u4 cs9 h
    refine nar_X8_23 hx hb hts hown hK hP hD hS hG hA (by omega) (by omega) ⟨by show kK cs1 - kK cs + 1 ≤ kK cs9 - kK cs; omega, by show kM cs1 - kM cs + (2 * u2).toNatClampNeg ≤ kM cs9 - kM cs; omega⟩ hv_14 dX8_sort_37 dX8_sort_39 (fun H locs hP hD hG hgz hS => ?_)
    refine W_cnt (c2 := kK cs_14 - kK cs) (n2 := kM cs_14 - kM cs) (by omega) (by omega) ?_
    exact B_42 cs_14 u0 u1 u2 u3 u4 h (by omega) (by omega) _ _ _ _ hP hD hG (by omega) hS (lv_sub hl [0, 1, 2, 3, 4] rfl)
  have B_24 : ∀ (cs1 : CS) (u0 : Nat) (u1 : Int32) (u2 : Int32) (u3 : Int32) (u4 : Int32), c_X8_sort_b24 F cs1 u0 u1 u2 u3 u4 = some cs9 → kK cs ≤ kK cs1 → kM cs ≤ kM cs1 → ∀ (Gh H : Heap) (locs : List Loc) (ls : Array Slot), va_P (dC, dI) vwCl (cW cB cI cJ cZ cS cO b cs1) H → va_D A (cW cB cI cJ cZ cS cO b cs1) → va_S A s.heap Gh [] → Gh.size = b + kK cs1 → va_S A Gh H locs → lv_has ls 7 [(0, .ref (b + u0)), (1, .int u1), (2, .int u2), (3, .int u3), (4, .int u4)] → W p l e (headSpec (wsOf yX8_sort cX8_sort 7 none) ({ frames := 5, cells := kK cs9 - kK cs, slots := kM cs9 - kM cs, locals := 60 * (5) } : Room)).room s m ([.ref (b + x0), .int x1, .int x2, .int x3, .int x4] : List Value).toArray below meth c H locs (kK cs1 - kK cs) (kM cs1 - kM cs) (MQ below (va_Qv (fun (_ : Unit) => True) (fun _ t_ => va_P (dC, dI) vwCl (cW cB cI cJ cZ cS cO b cs9) t_.heap ∧ va_D A (cW cB cI cJ cZ cS cO b cs9) ∧ b + kK cs9 ≤ t_.heap.size) A) ([.ref (b + x0), .int x1, .int x2, .int x3, .int x4] : List Value).toArray s (kK cs9 - kK cs) (kM cs9 - kM cs) A) (F0 m 24 ls []) := by
    intro cs1 u0 u1 u2 u3 u4 h hmk hmm Gh H locs ls hP hD hG hgz hS hl
    obtain ⟨kb9, mb9⟩ := mo_c_X8_sort_b24 F cs1 u0 u1 u2 u3 u4 cs9 h
    unfold c_X8_sort_b24 at h
    refine lv_aload_n hx hb dX8_sort_24 rfl (lv_at hl 0 rfl) ?_
    refine lv_iconst (v := 2) hx hb dX8_sort_25 (by decide) ?_
    refine lv_iload_n hx hb dX8_sort_26 rfl (lv_at hl 2 rfl) ?_
    refine lv_imul hx hb dX8_sort_27 ?_
    replace h := ob h; obtain ⟨cs_15, hv_15, h⟩ := h
    obtain ⟨qk_15, qm_15⟩ := nwA_k hv_15
    obtain ⟨k9_15, m9_15⟩ := mo_c_X8_sort_b33 F cs_15 u0 u1 u2 u3 u4 cs9 h
    refine nar_X8_19 hx hb hts hown hK hP hD hS hG hA (by omega) (by omega) ⟨by show kK cs1 - kK cs + 1 ≤ kK cs9 - kK cs; omega, by show kM cs1 - kM cs + (2 * u2).toNatClampNeg ≤ kM cs9 - kM cs; omega⟩ hv_15 dX8_sort_28 dX8_sort_30 (fun H locs hP hD hG hgz hS => ?_)
    refine W_cnt (c2 := kK cs_15 - kK cs) (n2 := kM cs_15 - kM cs) (by omega) (by omega) ?_
    exact B_33 cs_15 u0 u1 u2 u3 u4 h (by omega) (by omega) _ _ _ _ hP hD hG (by omega) hS (lv_sub hl [0, 1, 2, 3, 4] rfl)
  have h := hf
  unfold c_X8_sort at h
  refine W_cnt (c2 := kK cs - kK cs) (n2 := kM cs - kM cs) (by omega) (by omega) ?_
  refine lv_iload_n hx hb dX8_sort_0 rfl (lv_at hl 2 rfl) ?_
  refine lv_iconst (v := 2) hx hb dX8_sort_1 (by decide) ?_
  refine lv_icmp_ge (tgt := 6) hx hb dX8_sort_2 (by decide) (fun c_16 => ?_) (fun c_16 => ?_)
  · skip
    replace h := (if_pos c_16).symm.trans h
    refine lv_aload_n hx hb dX8_sort_6 rfl (lv_at hl 0 rfl) ?_
    replace h := ob h; obtain ⟨v_17, hv_17, h⟩ := h
    refine fg_X8_19 hx hb hts hown hK hP hv_17 dX8_sort_7 ?_
    replace h := ob h; obtain ⟨v_18, hv_18, h⟩ := h
    refine alen0 hx hb hK hP rfl hv_18 dX8_sort_10 ?_
    refine lv_iload_n hx hb dX8_sort_11 rfl (lv_at hl 2 rfl) ?_
    refine lv_icmp_lt (tgt := 24) hx hb dX8_sort_12 (by decide) (fun c_19 => ?_) (fun c_19 => ?_)
    · skip
      replace h := (if_pos c_19).symm.trans h
      refine W_cnt (c2 := kK cs - kK cs) (n2 := kM cs - kM cs) (by omega) (by omega) ?_
      exact B_24 cs x0 x1 x2 x3 x4 h (by omega) (by omega) _ _ _ _ hP hD hG (by omega) hS (lv_sub hl [0, 1, 2, 3, 4] rfl)
    · skip
      replace h := (if_neg c_19).symm.trans h
      refine lv_aload_n hx hb dX8_sort_15 rfl (lv_at hl 0 rfl) ?_
      replace h := ob h; obtain ⟨v_20, hv_20, h⟩ := h
      refine fg_X8_23 hx hb hts hown hK hP hv_20 dX8_sort_16 ?_
      replace h := ob h; obtain ⟨v_21, hv_21, h⟩ := h
      refine alen0 hx hb hK hP rfl hv_21 dX8_sort_19 ?_
      refine lv_iload_n hx hb dX8_sort_20 rfl (lv_at hl 2 rfl) ?_
      refine lv_icmp_ge (tgt := 42) hx hb dX8_sort_21 (by decide) (fun c_22 => ?_) (fun c_22 => ?_)
      · skip
        replace h := (if_pos c_22).symm.trans h
        refine W_cnt (c2 := kK cs - kK cs) (n2 := kM cs - kM cs) (by omega) (by omega) ?_
        exact B_42 cs x0 x1 x2 x3 x4 h (by omega) (by omega) _ _ _ _ hP hD hG (by omega) hS (lv_sub hl [0, 1, 2, 3, 4] rfl)
      · skip
        replace h := (if_neg c_22).symm.trans h
        refine W_cnt (c2 := kK cs - kK cs) (n2 := kM cs - kM cs) (by omega) (by omega) ?_
        exact B_24 cs x0 x1 x2 x3 x4 h (by omega) (by omega) _ _ _ _ hP hD hG (by omega) hS (lv_sub hl [0, 1, 2, 3, 4] rfl)
  · skip
    replace h := (if_neg c_16).symm.trans h
    have e1 := Option.some.inj h
    rw [e1] at hP hD
    have e3 := congrArg kK e1
    have e4 := congrArg kM e1
    refine W_cnt (c2 := kK cs9 - kK cs) (n2 := kM cs9 - kM cs) (by omega) (by omega) ?_
    exact W.vret hx hb hr (fun t_ ht hW => ⟨⟨(), rfl, trivial, by rw [ht]; exact hP, hD, by rw [ht]; have := hS.1; omega⟩, (hG.comp hS).F ht⟩) (hG.comp hS).2.2 dX8_sort_5
theorem dX4_fold_0 : decode cX4_fold 0 = .ok (.aload_n 1, 1) := by decide +kernel
theorem dX4_fold_1 : decode cX4_fold 1 = .ok (.getfield 153, 3) := by decide +kernel
theorem dX4_fold_4 : decode cX4_fold 4 = .ok (.getfield 29, 3) := by decide +kernel
theorem dX4_fold_7 : decode cX4_fold 7 = .ok (.istore 5, 2) := by decide +kernel
theorem dX4_fold_9 : decode cX4_fold 9 = .ok (.aload_n 0, 1) := by decide +kernel
theorem dX4_fold_10 : decode cX4_fold 10 = .ok (.getfield 19, 3) := by decide +kernel
theorem dX4_fold_13 : decode cX4_fold 13 = .ok (.iload_n 2, 1) := by decide +kernel
theorem dX4_fold_14 : decode cX4_fold 14 = .ok (.iload 4, 2) := by decide +kernel
theorem dX4_fold_16 : decode cX4_fold 16 = .ok (.iload 5, 2) := by decide +kernel
theorem dX4_fold_18 : decode cX4_fold 18 = .ok (.invokevirtual 89, 3) := by decide +kernel
theorem dX4_fold_21 : decode cX4_fold 21 = .ok (.iconst 0, 1) := by decide +kernel
theorem dX4_fold_22 : decode cX4_fold 22 = .ok (.istore 6, 2) := by decide +kernel
theorem dX4_fold_24 : decode cX4_fold 24 = .ok (.iload 6, 2) := by decide +kernel
theorem dX4_fold_26 : decode cX4_fold 26 = .ok (.aload_n 1, 1) := by decide +kernel
theorem dX4_fold_27 : decode cX4_fold 27 = .ok (.getfield 156, 3) := by decide +kernel
theorem dX4_fold_30 : decode cX4_fold 30 = .ok (.if_icmp .ge 86, 3) := by decide +kernel
theorem dX4_fold_33 : decode cX4_fold 33 = .ok (.iload 6, 2) := by decide +kernel
theorem dX4_fold_35 : decode cX4_fold 35 = .ok (.aload_n 1, 1) := by decide +kernel
theorem dX4_fold_36 : decode cX4_fold 36 = .ok (.getfield 244, 3) := by decide +kernel
theorem dX4_fold_39 : decode cX4_fold 39 = .ok (.arraylength, 1) := by decide +kernel
theorem dX4_fold_40 : decode cX4_fold 40 = .ok (.if_icmp .ge 76, 3) := by decide +kernel
theorem dX4_fold_43 : decode cX4_fold 43 = .ok (.aload_n 1, 1) := by decide +kernel
theorem dX4_fold_44 : decode cX4_fold 44 = .ok (.getfield 244, 3) := by decide +kernel
theorem dX4_fold_47 : decode cX4_fold 47 = .ok (.iload 6, 2) := by decide +kernel
theorem dX4_fold_49 : decode cX4_fold 49 = .ok (.iaload, 1) := by decide +kernel
theorem dX4_fold_50 : decode cX4_fold 50 = .ok (.istore 7, 2) := by decide +kernel
theorem dX4_fold_52 : decode cX4_fold 52 = .ok (.aload_n 0, 1) := by decide +kernel
theorem dX4_fold_53 : decode cX4_fold 53 = .ok (.getfield 15, 3) := by decide +kernel
theorem dX4_fold_56 : decode cX4_fold 56 = .ok (.iload 7, 2) := by decide +kernel
theorem dX4_fold_58 : decode cX4_fold 58 = .ok (.invokevirtual 247, 3) := by decide +kernel
theorem dX4_fold_61 : decode cX4_fold 61 = .ok (.ifCond .eq 16, 3) := by decide +kernel
theorem dX4_fold_64 : decode cX4_fold 64 = .ok (.aload_n 0, 1) := by decide +kernel
theorem dX4_fold_65 : decode cX4_fold 65 = .ok (.getfield 15, 3) := by decide +kernel
theorem dX4_fold_68 : decode cX4_fold 68 = .ok (.getfield 248, 3) := by decide +kernel
theorem dX4_fold_71 : decode cX4_fold 71 = .ok (.iload 7, 2) := by decide +kernel
theorem dX4_fold_73 : decode cX4_fold 73 = .ok (.iaload, 1) := by decide +kernel
theorem dX4_fold_74 : decode cX4_fold 74 = .ok (.goto 5, 3) := by decide +kernel
theorem dX4_fold_77 : decode cX4_fold 77 = .ok (.bipush 32, 2) := by decide +kernel
theorem dX4_fold_79 : decode cX4_fold 79 = .ok (.istore 8, 2) := by decide +kernel
theorem dX4_fold_81 : decode cX4_fold 81 = .ok (.aload_n 0, 1) := by decide +kernel
theorem dX4_fold_82 : decode cX4_fold 82 = .ok (.iload 8, 2) := by decide +kernel
theorem dX4_fold_84 : decode cX4_fold 84 = .ok (.iload_n 2, 1) := by decide +kernel
theorem dX4_fold_85 : decode cX4_fold 85 = .ok (.iload 5, 2) := by decide +kernel
theorem dX4_fold_87 : decode cX4_fold 87 = .ok (.iadd, 1) := by decide +kernel
theorem dX4_fold_88 : decode cX4_fold 88 = .ok (.iload 6, 2) := by decide +kernel
theorem dX4_fold_90 : decode cX4_fold 90 = .ok (.iadd, 1) := by decide +kernel
theorem dX4_fold_91 : decode cX4_fold 91 = .ok (.iload_n 3, 1) := by decide +kernel
theorem dX4_fold_92 : decode cX4_fold 92 = .ok (.iload 5, 2) := by decide +kernel
theorem dX4_fold_94 : decode cX4_fold 94 = .ok (.aload_n 1, 1) := by decide +kernel
theorem dX4_fold_95 : decode cX4_fold 95 = .ok (.getfield 156, 3) := by decide +kernel
theorem dX4_fold_98 : decode cX4_fold 98 = .ok (.iadd, 1) := by decide +kernel
theorem dX4_fold_99 : decode cX4_fold 99 = .ok (.iload 4, 2) := by decide +kernel
theorem dX4_fold_101 : decode cX4_fold 101 = .ok (.iload 5, 2) := by decide +kernel
theorem dX4_fold_103 : decode cX4_fold 103 = .ok (.iadd, 1) := by decide +kernel
theorem dX4_fold_104 : decode cX4_fold 104 = .ok (.iload 6, 2) := by decide +kernel
theorem dX4_fold_106 : decode cX4_fold 106 = .ok (.iadd, 1) := by decide +kernel
theorem dX4_fold_107 : decode cX4_fold 107 = .ok (.invokevirtual 251, 3) := by decide +kernel
theorem dX4_fold_110 : decode cX4_fold 110 = .ok (.iinc 6 1, 3) := by decide +kernel
theorem dX4_fold_113 : decode cX4_fold 113 = .ok (.goto (-89), 3) := by decide +kernel
theorem dX4_fold_116 : decode cX4_fold 116 = .ok (.return_, 1) := by decide +kernel
def c_X4_fold_b116 (F : Nat) (cs1 : CS) : Option CS := some cs1
def c_X4_fold_b79 (F : Nat) (rc24 : CS → Nat → Nat → Int32 → Int32 → Int32 → Int32 → Int32 → Option CS) (cs1 : CS) (u0 : Nat) (u1 : Nat) (u2 : Int32) (u3 : Int32) (u4 : Int32) (u5 : Int32) (u6 : Int32) (y0 : Int32) : Option CS := Option.bind (gI cs1 6 203 u1) fun v_1 => Option.bind (ckE cs1 5 u0) fun _ => Option.bind (c_X4_foldOne F cs1 u0 y0 ((u2 + u5) + u6) u3 (u5 + v_1) ((u4 + u5) + u6)) fun cs_2 => rc24 cs_2 u0 u1 u2 u3 u4 u5 (u6 + 1)
def c_X4_fold_L24 (F : Nat) : Nat → CS → Nat → Nat → Int32 → Int32 → Int32 → Int32 → Int32 → Option CS
  | 0, _, _, _, _, _, _, _, _ => none
  | lf_24 + 1, cs1, u0, u1, u2, u3, u4, u5, u6 => Option.bind (gI cs1 6 203 u1) fun v_4 => if v_4 ≤ u6 then (c_X4_fold_b116 F cs1) else (Option.bind (gA cs1 6 202 u1) fun v_6 => Option.bind (lnA cs1 202 u1 v_6) fun v_7 => if v_7 ≤ u6 then (c_X4_fold_b116 F cs1) else (Option.bind (gA cs1 6 202 u1) fun v_9 => Option.bind (rA cs1 202 u1 v_9 u6) fun v_10 => Option.bind (gR cs1 5 161 u0) fun v_11 => Option.bind (v_11) fun i_13 => Option.bind (ckE cs1 2 i_13) fun _ => Option.bind (c_X1_has F cs1 i_13 v_10) fun v_12 => if v_12 = 0 then (c_X4_fold_b79 F (c_X4_fold_L24 F lf_24) cs1 u0 u1 u2 u3 u4 u5 u6 32) else (Option.bind (gR cs1 5 161 u0) fun v_16 => Option.bind (v_16) fun i_17 => Option.bind (gA cs1 2 65 i_17) fun v_18 => Option.bind (rA cs1 65 i_17 v_18 v_10) fun v_19 => c_X4_fold_b79 F (c_X4_fold_L24 F lf_24) cs1 u0 u1 u2 u3 u4 u5 u6 v_19)))
def c_X4_fold_b21 (F : Nat) (cs1 : CS) (u0 : Nat) (u1 : Nat) (u2 : Int32) (u3 : Int32) (u4 : Int32) (u5 : Int32) : Option CS := c_X4_fold_L24 F F cs1 u0 u1 u2 u3 u4 u5 0
def c_X4_fold (F : Nat) (cs : CS) (x0 : Nat) (x1 : Nat) (x2 : Int32) (x3 : Int32) (x4 : Int32) : Option CS := Option.bind (gR cs 6 200 x1) fun v_20 => Option.bind (v_20) fun i_21 => Option.bind (gI cs 3 96 i_21) fun v_22 => Option.bind (gR cs 5 162 x0) fun v_23 => Option.bind (v_23) fun i_25 => Option.bind (ckE cs 9 i_25) fun _ => Option.bind (c_X8_copy F cs i_25 x2 x4 v_22) fun cs_24 => c_X4_fold_b21 F cs_24 x0 x1 x2 x3 x4 v_22
theorem cw_X4_X4_fold {R : Room} {s : State} {args : Array Value} {y0 : MethodName} {c0 : ByteArray} {n0 : Nat} {r0 : Option FieldType} (hts : ∀ w ∈ wsOf y0 c0 n0 r0, w.before args s = true) {fr mc ms : Nat} (h1 : fr + 1 ≤ R.frames) (h2 : 8 + (9 + 11) + 60 * fr ≤ R.locals) : CallW R s args RX4 RX4 240 yX4_fold cX4_fold 9 none (wsOf yX4_fold cX4_fold 9 none) ({ frames := fr, cells := mc, slots := ms, locals := 60 * fr } : Room) mc ms 4 := cwV 4 hts (gd_all (in_V kw_1508 kw_1510 kw_84 kw_206 kc_X4_fold)) rfl rfl rfl (by decide +kernel) ⟨h1, h2⟩
theorem mo_c_X4_fold_b116 (F : Nat) (cs1 : CS) (cs9 : CS) (h : c_X4_fold_b116 F cs1 = some cs9) : kK cs1 ≤ kK cs9 ∧ kM cs1 ≤ kM cs9 := by
  unfold c_X4_fold_b116 at h
  have h9 := Option.some.inj h
  have k9 := congrArg kK h9; have m9 := congrArg kM h9; exact ⟨by omega, by omega⟩
theorem mo_c_X4_fold_b79 (F : Nat) (rc24 : CS → Nat → Nat → Int32 → Int32 → Int32 → Int32 → Int32 → Option CS) (hrc24 : ∀ (cs1 : CS) (u0 : Nat) (u1 : Nat) (u2 : Int32) (u3 : Int32) (u4 : Int32) (u5 : Int32) (u6 : Int32) (cs9 : CS), rc24 cs1 u0 u1 u2 u3 u4 u5 u6 = some cs9 → kK cs1 ≤ kK cs9 ∧ kM cs1 ≤ kM cs9) (cs1 : CS) (u0 : Nat) (u1 : Nat) (u2 : Int32) (u3 : Int32) (u4 : Int32) (u5 : Int32) (u6 : Int32) (y0 : Int32) (cs9 : CS) (h : c_X4_fold_b79 F rc24 cs1 u0 u1 u2 u3 u4 u5 u6 y0 = some cs9) : kK cs1 ≤ kK cs9 ∧ kM cs1 ≤ kM cs9 := by
  unfold c_X4_fold_b79 at h
  replace h := ob h; obtain ⟨v_20, hv_20, h⟩ := h
  replace h := ob h; obtain ⟨w_22, hw_22, h⟩ := h
  replace h := ob h; obtain ⟨cs_21, hv_21, h⟩ := h
  obtain ⟨qk_21, qm_21⟩ := k_of (mo_c_X4_foldOne F cs1 u0 y0 ((u2 + u5) + u6) u3 (u5 + v_20) ((u4 + u5) + u6) cs_21 hv_21)
  obtain ⟨k9, m9⟩ := hrc24 cs_21 u0 u1 u2 u3 u4 u5 (u6 + 1) cs9 h
  exact ⟨by omega, by omega⟩
theorem mo_c_X4_fold_L24 (F : Nat) : ∀ (lf_24 : Nat) (cs1 : CS) (u0 : Nat) (u1 : Nat) (u2 : Int32) (u3 : Int32) (u4 : Int32) (u5 : Int32) (u6 : Int32) (cs9 : CS), c_X4_fold_L24 F lf_24 cs1 u0 u1 u2 u3 u4 u5 u6 = some cs9 → kK cs1 ≤ kK cs9 ∧ kM cs1 ≤ kM cs9 := by
  intro lf_24
  induction lf_24 with
  | zero => intro cs1 u0 u1 u2 u3 u4 u5 u6 cs9 h; cases (show (none : Option CS) = _ from h)
  | succ lf_24 ih_24 =>
    intro cs1 u0 u1 u2 u3 u4 u5 u6 cs9 h
    rw [c_X4_fold_L24] at h
    replace h := ob h; obtain ⟨v_20, hv_20, h⟩ := h
    by_cases c_21 : v_20 ≤ u6
    · skip
      replace h := (if_pos c_21).symm.trans h
      obtain ⟨k9, m9⟩ := mo_c_X4_fold_b116 F cs1 cs9 h
      exact ⟨by omega, by omega⟩
    · skip
      replace h := (if_neg c_21).symm.trans h
      replace h := ob h; obtain ⟨v_22, hv_22, h⟩ := h
      replace h := ob h; obtain ⟨v_23, hv_23, h⟩ := h
      by_cases c_24 : v_23 ≤ u6
      · skip
        replace h := (if_pos c_24).symm.trans h
        obtain ⟨k9, m9⟩ := mo_c_X4_fold_b116 F cs1 cs9 h
        exact ⟨by omega, by omega⟩
      · skip
        replace h := (if_neg c_24).symm.trans h
        replace h := ob h; obtain ⟨v_25, hv_25, h⟩ := h
        replace h := ob h; obtain ⟨v_26, hv_26, h⟩ := h
        replace h := ob h; obtain ⟨v_27, hv_27, h⟩ := h
        replace h := ob h; obtain ⟨i_29, hi_29, h⟩ := h
        subst hi_29
        replace h := ob h; obtain ⟨w_30, hw_30, h⟩ := h
        replace h := ob h; obtain ⟨v_28, hv_28, h⟩ := h
        by_cases c_31 : v_28 = 0
        · skip
          replace h := (if_pos c_31).symm.trans h
          obtain ⟨k9, m9⟩ := mo_c_X4_fold_b79 F (c_X4_fold_L24 F lf_24) ih_24 cs1 u0 u1 u2 u3 u4 u5 u6 32 cs9 h
          exact ⟨by omega, by omega⟩
        · skip
          replace h := (if_neg c_31).symm.trans h
          replace h := ob h; obtain ⟨v_32, hv_32, h⟩ := h
          replace h := ob h; obtain ⟨i_33, hi_33, h⟩ := h
          subst hi_33
          replace h := ob h; obtain ⟨v_34, hv_34, h⟩ := h
          replace h := ob h; obtain ⟨v_35, hv_35, h⟩ := h
          obtain ⟨k9, m9⟩ := mo_c_X4_fold_b79 F (c_X4_fold_L24 F lf_24) ih_24 cs1 u0 u1 u2 u3 u4 u5 u6 v_35 cs9 h
          exact ⟨by omega, by omega⟩
theorem mo_c_X4_fold_b21 (F : Nat) (cs1 : CS) (u0 : Nat) (u1 : Nat) (u2 : Int32) (u3 : Int32) (u4 : Int32) (u5 : Int32) (cs9 : CS) (h : c_X4_fold_b21 F cs1 u0 u1 u2 u3 u4 u5 = some cs9) : kK cs1 ≤ kK cs9 ∧ kM cs1 ≤ kM cs9 := by
  unfold c_X4_fold_b21 at h
  obtain ⟨k9, m9⟩ := mo_c_X4_fold_L24 F F cs1 u0 u1 u2 u3 u4 u5 0 cs9 h
  exact ⟨by omega, by omega⟩
theorem mo_c_X4_fold (F : Nat) (cs : CS) (x0 : Nat) (x1 : Nat) (x2 : Int32) (x3 : Int32) (x4 : Int32) (cs9 : CS) (h : c_X4_fold F cs x0 x1 x2 x3 x4 = some cs9) : kK cs ≤ kK cs9 ∧ kM cs ≤ kM cs9 := by
  unfold c_X4_fold at h
  replace h := ob h; obtain ⟨v_20, hv_20, h⟩ := h
  replace h := ob h; obtain ⟨i_21, hi_21, h⟩ := h
  subst hi_21
  replace h := ob h; obtain ⟨v_22, hv_22, h⟩ := h
  replace h := ob h; obtain ⟨v_23, hv_23, h⟩ := h
  replace h := ob h; obtain ⟨i_25, hi_25, h⟩ := h
  subst hi_25
  replace h := ob h; obtain ⟨w_26, hw_26, h⟩ := h
  replace h := ob h; obtain ⟨cs_24, hv_24, h⟩ := h
  obtain ⟨qk_24, qm_24⟩ := mo_c_X8_copy F cs i_25 x2 x4 v_22 cs_24 hv_24
  obtain ⟨k9, m9⟩ := mo_c_X4_fold_b21 F cs_24 x0 x1 x2 x3 x4 v_22 cs9 h
  exact ⟨by omega, by omega⟩
set_option maxHeartbeats 4000000 in
set_option maxRecDepth 100000 in
theorem sa_X4_fold (l : Launch) (dC : Nat → ClassId) (dI : Nat → Nat → Nat) (cB cI cJ cZ cS cO : ClassId) (b : Nat) (K V : Nat → Nat) (fz : Value) (F : Nat) (cs : CS) (x0 : Nat) (x1 : Nat) (x2 : Int32) (x3 : Int32) (x4 : Int32) (cs9 : CS) (hf : c_X4_fold F cs x0 x1 x2 x3 x4 = some cs9) : oaV l dC dI cB cI cJ cZ cS cO b K V fz yX4_fold (wsOf yX4_fold cX4_fold 9 none) (5) [.ref (b + x0), .ref (b + x1), .int x2, .int x3, .int x4] cs cs9 := by
  obtain ⟨kb9, mb9⟩ := mo_c_X4_fold F cs x0 x1 x2 x3 x4 cs9 hf
  refine ⟨⟨kb9, mb9⟩, ?_⟩
  refine Met.ofW (cc := cX4_fold) (maxL := 9) (ret := none) (by decide) rfl ?_
  intro p e s m args below meth c s₁ B hml hv
  obtain ⟨rfl, hsz, hP, hK, hD0, hZ⟩ := hv
  have hx := B.exec
  have hb := B.bytes
  have hr := B.returns
  have hts := atoms_spec (ws := (wsOf yX4_fold cX4_fold 9 none)) B.pre
  have hown : s.vm.findClass RX4 = some m.cls := findClass_of_methodNamed B.named
  have hlocks := B.notSynchronized
  have hD := hD0.self (sz := b + kK cs)
  generalize hAe : va_A (cW cB cI cJ cZ cS cO b cs) (b + kK cs) = A at hD hZ ⊢
  have hA : ∀ q : Nat, s.heap.size ≤ q → A q := fun q h => by rw [← hAe]; exact Or.inr (by omega)
  have hS : va_S A s.heap s.heap [] := va_S.rf
  have hG : va_S A s.heap s.heap [] := va_S.rf
  have hgz : s.heap.size = b + kK cs := hsz
  have hl := lv_entry ([.ref (b + x0), .ref (b + x1), .int x2, .int x3, .int x4]) (n := 9) (Nat.le_of_ble_eq_true rfl)
  rw [lg_entry_eq]
  generalize (lg_sl ([.ref (b + x0), .ref (b + x1), .int x2, .int x3, .int x4]) ++ List.replicate (9 - (lg_sl ([.ref (b + x0), .ref (b + x1), .int x2, .int x3, .int x4])).length) Slot.unset).toArray = ls at hl ⊢
  have hl : lv_has ls 9 [(0, .ref (b + x0)), (1, .ref (b + x1)), (2, .int x2), (3, .int x3), (4, .int x4)] := hl
  have B_116 : ∀ (cs1 : CS) , c_X4_fold_b116 F cs1 = some cs9 → kK cs ≤ kK cs1 → kM cs ≤ kM cs1 → ∀ (Gh H : Heap) (locs : List Loc) (ls : Array Slot), va_P (dC, dI) vwCl (cW cB cI cJ cZ cS cO b cs1) H → va_D A (cW cB cI cJ cZ cS cO b cs1) → va_S A s.heap Gh [] → Gh.size = b + kK cs1 → va_S A Gh H locs → lv_has ls 9 [] → W p l e (headSpec (wsOf yX4_fold cX4_fold 9 none) ({ frames := 5, cells := kK cs9 - kK cs, slots := kM cs9 - kM cs, locals := 60 * (5) } : Room)).room s m ([.ref (b + x0), .ref (b + x1), .int x2, .int x3, .int x4] : List Value).toArray below meth c H locs (kK cs1 - kK cs) (kM cs1 - kM cs) (MQ below (va_Qv (fun (_ : Unit) => True) (fun _ t_ => va_P (dC, dI) vwCl (cW cB cI cJ cZ cS cO b cs9) t_.heap ∧ va_D A (cW cB cI cJ cZ cS cO b cs9) ∧ b + kK cs9 ≤ t_.heap.size) A) ([.ref (b + x0), .ref (b + x1), .int x2, .int x3, .int x4] : List Value).toArray s (kK cs9 - kK cs) (kM cs9 - kM cs) A) (F0 m 116 ls []) := by
    intro cs1  h hmk hmm Gh H locs ls hP hD hG hgz hS hl
    obtain ⟨kb9, mb9⟩ := mo_c_X4_fold_b116 F cs1  cs9 h
    unfold c_X4_fold_b116 at h
    have e1 := Option.some.inj h
    rw [e1] at hP hD
    have e3 := congrArg kK e1
    have e4 := congrArg kM e1
    refine W_cnt (c2 := kK cs9 - kK cs) (n2 := kM cs9 - kM cs) (by omega) (by omega) ?_
    exact W.vret hx hb hr (fun t_ ht hW => ⟨⟨(), rfl, trivial, by rw [ht]; exact hP, hD, by rw [ht]; have := hS.1; omega⟩, (hG.comp hS).F ht⟩) (hG.comp hS).2.2 dX4_fold_116
  have L_24 : ∀ (lf_24 : Nat), ∀ (cs1 : CS) (u0 : Nat) (u1 : Nat) (u2 : Int32) (u3 : Int32) (u4 : Int32) (u5 : Int32) (u6 : Int32), c_X4_fold_L24 F lf_24 cs1 u0 u1 u2 u3 u4 u5 u6 = some cs9 → kK cs ≤ kK cs1 → kM cs ≤ kM cs1 → ∀ (Gh H : Heap) (locs : List Loc) (ls : Array Slot), va_P (dC, dI) vwCl (cW cB cI cJ cZ cS cO b cs1) H → va_D A (cW cB cI cJ cZ cS cO b cs1) → va_S A s.heap Gh [] → Gh.size = b + kK cs1 → va_S A Gh H locs → lv_has ls 9 [(0, .ref (b + u0)), (1, .ref (b + u1)), (2, .int u2), (3, .int u3), (4, .int u4), (5, .int u5), (6, .int u6)] → W p l e (headSpec (wsOf yX4_fold cX4_fold 9 none) ({ frames := 5, cells := kK cs9 - kK cs, slots := kM cs9 - kM cs, locals := 60 * (5) } : Room)).room s m ([.ref (b + x0), .ref (b + x1), .int x2, .int x3, .int x4] : List Value).toArray below meth c H locs (kK cs1 - kK cs) (kM cs1 - kM cs) (MQ below (va_Qv (fun (_ : Unit) => True) (fun _ t_ => va_P (dC, dI) vwCl (cW cB cI cJ cZ cS cO b cs9) t_.heap ∧ va_D A (cW cB cI cJ cZ cS cO b cs9) ∧ b + kK cs9 ≤ t_.heap.size) A) ([.ref (b + x0), .ref (b + x1), .int x2, .int x3, .int x4] : List Value).toArray s (kK cs9 - kK cs) (kM cs9 - kM cs) A) (F0 m 24 ls []) := by
    intro lf_24
    induction lf_24 with
    | zero => intro cs1 u0 u1 u2 u3 u4 u5 u6 h; cases (show (none : Option CS) = _ from h)
    | succ lf_24 ih_24 =>
      have B_79 : ∀ (cs1 : CS) (u0 : Nat) (u1 : Nat) (u2 : Int32) (u3 : Int32) (u4 : Int32) (u5 : Int32) (u6 : Int32) (y0 : Int32), c_X4_fold_b79 F (c_X4_fold_L24 F lf_24) cs1 u0 u1 u2 u3 u4 u5 u6 y0 = some cs9 → kK cs ≤ kK cs1 → kM cs ≤ kM cs1 → ∀ (Gh H : Heap) (locs : List Loc) (ls : Array Slot), va_P (dC, dI) vwCl (cW cB cI cJ cZ cS cO b cs1) H → va_D A (cW cB cI cJ cZ cS cO b cs1) → va_S A s.heap Gh [] → Gh.size = b + kK cs1 → va_S A Gh H locs → lv_has ls 9 [(0, .ref (b + u0)), (1, .ref (b + u1)), (2, .int u2), (3, .int u3), (4, .int u4), (5, .int u5), (6, .int u6)] → W p l e (headSpec (wsOf yX4_fold cX4_fold 9 none) ({ frames := 5, cells := kK cs9 - kK cs, slots := kM cs9 - kM cs, locals := 60 * (5) } : Room)).room s m ([.ref (b + x0), .ref (b + x1), .int x2, .int x3, .int x4] : List Value).toArray below meth c H locs (kK cs1 - kK cs) (kM cs1 - kM cs) (MQ below (va_Qv (fun (_ : Unit) => True) (fun _ t_ => va_P (dC, dI) vwCl (cW cB cI cJ cZ cS cO b cs9) t_.heap ∧ va_D A (cW cB cI cJ cZ cS cO b cs9) ∧ b + kK cs9 ≤ t_.heap.size) A) ([.ref (b + x0), .ref (b + x1), .int x2, .int x3, .int x4] : List Value).toArray s (kK cs9 - kK cs) (kM cs9 - kM cs) A) (F0 m 79 ls [.int y0]) := by
        intro cs1 u0 u1 u2 u3 u4 u5 u6 y0 h hmk hmm Gh H locs ls hP hD hG hgz hS hl
        obtain ⟨kb9, mb9⟩ := mo_c_X4_fold_b79 F (c_X4_fold_L24 F lf_24) (mo_c_X4_fold_L24 F lf_24) cs1 u0 u1 u2 u3 u4 u5 u6 y0 cs9 h
        unfold c_X4_fold_b79 at h
        refine lv_istore (lv' := [(8, .int y0), (0, .ref (b + u0)), (1, .ref (b + u1)), (2, .int u2), (3, .int u3), (4, .int u4), (5, .int u5), (6, .int u6)]) hx hb dX4_fold_79 hl (by decide) rfl (fun ls hl => ?_)
        refine lv_aload_n hx hb dX4_fold_81 rfl (lv_at hl 1 rfl) ?_
        refine lv_iload hx hb dX4_fold_82 (lv_at hl 0 rfl) ?_
        refine lv_iload_n hx hb dX4_fold_84 rfl (lv_at hl 3 rfl) ?_
        refine lv_iload hx hb dX4_fold_85 (lv_at hl 6 rfl) ?_
        refine lv_iadd hx hb dX4_fold_87 ?_
        refine lv_iload hx hb dX4_fold_88 (lv_at hl 7 rfl) ?_
        refine lv_iadd hx hb dX4_fold_90 ?_
        refine lv_iload_n hx hb dX4_fold_91 rfl (lv_at hl 4 rfl) ?_
        refine lv_iload hx hb dX4_fold_92 (lv_at hl 6 rfl) ?_
        refine lv_aload_n hx hb dX4_fold_94 rfl (lv_at hl 2 rfl) ?_
        replace h := ob h; obtain ⟨v_1, hv_1, h⟩ := h
        refine fg_X4_156 hx hb hts hown hK hP hv_1 dX4_fold_95 ?_
        refine lv_iadd hx hb dX4_fold_98 ?_
        refine lv_iload hx hb dX4_fold_99 (lv_at hl 5 rfl) ?_
        refine lv_iload hx hb dX4_fold_101 (lv_at hl 6 rfl) ?_
        refine lv_iadd hx hb dX4_fold_103 ?_
        refine lv_iload hx hb dX4_fold_104 (lv_at hl 7 rfl) ?_
        refine lv_iadd hx hb dX4_fold_106 ?_
        replace h := ob h; obtain ⟨w_3, hw_3, h⟩ := h
        replace h := ob h; obtain ⟨cs_2, hv_2, h⟩ := h
        obtain ⟨qk_2, qm_2⟩ := k_of (mo_c_X4_foldOne F cs1 u0 y0 ((u2 + u5) + u6) u3 (u5 + v_1) ((u4 + u5) + u6) cs_2 hv_2)
        refine cbvV (As := [.int y0, .int ((u2 + u5) + u6), .int u3, .int (u5 + v_1), .int ((u4 + u5) + u6)]) hx hb hml hts hown hK hP hD hS hG hA (by omega) (by omega) hZ (X := 5) (by decide) rfl (ckE_some hw_3) (sc_X4_foldOne l dC dI cB cI cJ cZ cS cO b K V fz F cs1 u0 y0 ((u2 + u5) + u6) u3 (u5 + v_1) ((u4 + u5) + u6) cs_2 hv_2) (cw_X4_X4_foldOne hts (fr := 2) (Nat.le_of_ble_eq_true rfl) (Nat.le_of_ble_eq_true rfl)) rfl hl.1 (Nat.le_of_ble_eq_true rfl) ⟨by show kK cs1 - kK cs ≤ kK cs9 - kK cs; omega, by show kM cs1 - kM cs ≤ kM cs9 - kM cs; omega⟩ dX4_fold_107 (fun H locs hP hD hG hgz hS => ?_)
        refine lv_iinc (v := u6 + 1) (lv' := [(6, .int (u6 + 1)), (8, .int y0), (0, .ref (b + u0)), (1, .ref (b + u1)), (2, .int u2), (3, .int u3), (4, .int u4), (5, .int u5)]) hx hb dX4_fold_110 hl (k := 7) rfl rfl (by decide) rfl (fun ls hl => ?_)
        refine lv_goto (tgt := 24) hx hb dX4_fold_113 (by decide) ?_
        refine W_cnt (c2 := kK cs_2 - kK cs) (n2 := kM cs_2 - kM cs) (by omega) (by omega) ?_
        exact ih_24 cs_2 u0 u1 u2 u3 u4 u5 (u6 + 1) h (by omega) (by omega) _ _ _ _ hP hD hG (by omega) hS (lv_sub hl [2, 3, 4, 5, 6, 7, 0] rfl)
      intro cs1 u0 u1 u2 u3 u4 u5 u6 h hmk hmm Gh H locs ls hP hD hG hgz hS hl
      obtain ⟨kb9, mb9⟩ := mo_c_X4_fold_L24 F (lf_24 + 1) cs1 u0 u1 u2 u3 u4 u5 u6 cs9 h
      rw [c_X4_fold_L24] at h
      refine lv_iload hx hb dX4_fold_24 (lv_at hl 6 rfl) ?_
      refine lv_aload_n hx hb dX4_fold_26 rfl (lv_at hl 1 rfl) ?_
      replace h := ob h; obtain ⟨v_4, hv_4, h⟩ := h
      refine fg_X4_156 hx hb hts hown hK hP hv_4 dX4_fold_27 ?_
      refine lv_icmp_ge (tgt := 116) hx hb dX4_fold_30 (by decide) (fun c_5 => ?_) (fun c_5 => ?_)
      · skip
        replace h := (if_pos c_5).symm.trans h
        refine W_cnt (c2 := kK cs1 - kK cs) (n2 := kM cs1 - kM cs) (by omega) (by omega) ?_
        exact B_116 cs1 h (by omega) (by omega) _ _ _ _ hP hD hG (by omega) hS (lv_sub hl [] rfl)
      · skip
        replace h := (if_neg c_5).symm.trans h
        refine lv_iload hx hb dX4_fold_33 (lv_at hl 6 rfl) ?_
        refine lv_aload_n hx hb dX4_fold_35 rfl (lv_at hl 1 rfl) ?_
        replace h := ob h; obtain ⟨v_6, hv_6, h⟩ := h
        refine fg_X4_244 hx hb hts hown hK hP hv_6 dX4_fold_36 ?_
        replace h := ob h; obtain ⟨v_7, hv_7, h⟩ := h
        refine alen0 hx hb hK hP rfl hv_7 dX4_fold_39 ?_
        refine lv_icmp_ge (tgt := 116) hx hb dX4_fold_40 (by decide) (fun c_8 => ?_) (fun c_8 => ?_)
        · skip
          replace h := (if_pos c_8).symm.trans h
          refine W_cnt (c2 := kK cs1 - kK cs) (n2 := kM cs1 - kM cs) (by omega) (by omega) ?_
          exact B_116 cs1 h (by omega) (by omega) _ _ _ _ hP hD hG (by omega) hS (lv_sub hl [] rfl)
        · skip
          replace h := (if_neg c_8).symm.trans h
          refine lv_aload_n hx hb dX4_fold_43 rfl (lv_at hl 1 rfl) ?_
          replace h := ob h; obtain ⟨v_9, hv_9, h⟩ := h
          refine fg_X4_244 hx hb hts hown hK hP hv_9 dX4_fold_44 ?_
          refine lv_iload hx hb dX4_fold_47 (lv_at hl 6 rfl) ?_
          replace h := ob h; obtain ⟨v_10, hv_10, h⟩ := h
          refine ald0 hx hb hK hP rfl hv_10 dX4_fold_49 ?_
          refine lv_istore (lv' := [(7, .int v_10), (0, .ref (b + u0)), (1, .ref (b + u1)), (2, .int u2), (3, .int u3), (4, .int u4), (5, .int u5), (6, .int u6)]) hx hb dX4_fold_50 hl (by decide) rfl (fun ls hl => ?_)
          refine lv_aload_n hx hb dX4_fold_52 rfl (lv_at hl 1 rfl) ?_
          replace h := ob h; obtain ⟨v_11, hv_11, h⟩ := h
          refine fg_X4_15 hx hb hts hown hK hP hv_11 dX4_fold_53 ?_
          refine lv_iload hx hb dX4_fold_56 (lv_at hl 0 rfl) ?_
          replace h := ob h; obtain ⟨i_13, hi_13, h⟩ := h
          subst hi_13
          replace h := ob h; obtain ⟨w_14, hw_14, h⟩ := h
          replace h := ob h; obtain ⟨v_12, hv_12, h⟩ := h
          refine cbvI (As := [.int v_10]) hx hb hml hts hown hK hP hD hS hG hA (by omega) (by omega) hZ (X := 2) (by decide) rfl (ckE_some hw_14) (sc_X1_has l dC dI cB cI cJ cZ cS cO b K V fz F cs1 i_13 v_10 v_12 hv_12) (cw_X4_X1_has hts (fr := 0) (Nat.le_of_ble_eq_true rfl) (Nat.le_of_ble_eq_true rfl)) rfl hl.1 (Nat.le_of_ble_eq_true rfl) ⟨by show kK cs1 - kK cs ≤ kK cs9 - kK cs; omega, by show kM cs1 - kM cs ≤ kM cs9 - kM cs; omega⟩ dX4_fold_58 (fun H locs hP hD hG hgz hS => ?_)
          refine lv_if_eq (tgt := 77) hx hb dX4_fold_61 (by decide) (fun c_15 => ?_) (fun c_15 => ?_)
          · skip
            replace h := (if_pos c_15).symm.trans h
            refine lv_bipush (v := 32) hx hb dX4_fold_77 (by decide) ?_
            refine W_cnt (c2 := kK cs1 - kK cs) (n2 := kM cs1 - kM cs) (by omega) (by omega) ?_
            exact B_79 cs1 u0 u1 u2 u3 u4 u5 u6 32 h (by omega) (by omega) _ _ _ _ hP hD hG (by omega) hS (lv_sub hl [1, 2, 3, 4, 5, 6, 7] rfl)
          · skip
            replace h := (if_neg c_15).symm.trans h
            refine lv_aload_n hx hb dX4_fold_64 rfl (lv_at hl 1 rfl) ?_
            replace h := ob h; obtain ⟨v_16, hv_16, h⟩ := h
            refine fg_X4_15 hx hb hts hown hK hP hv_16 dX4_fold_65 ?_
            replace h := ob h; obtain ⟨i_17, hi_17, h⟩ := h
            subst hi_17
            replace h := ob h; obtain ⟨v_18, hv_18, h⟩ := h
            refine fg_X4_248 hx hb hts hown hK hP hv_18 dX4_fold_68 ?_
            refine lv_iload hx hb dX4_fold_71 (lv_at hl 0 rfl) ?_
            replace h := ob h; obtain ⟨v_19, hv_19, h⟩ := h
            refine ald0 hx hb hK hP rfl hv_19 dX4_fold_73 ?_
            refine lv_goto (tgt := 79) hx hb dX4_fold_74 (by decide) ?_
            refine W_cnt (c2 := kK cs1 - kK cs) (n2 := kM cs1 - kM cs) (by omega) (by omega) ?_
            exact B_79 cs1 u0 u1 u2 u3 u4 u5 u6 v_19 h (by omega) (by omega) _ _ _ _ hP hD hG (by omega) hS (lv_sub hl [1, 2, 3, 4, 5, 6, 7] rfl)
  have B_21 : ∀ (cs1 : CS) (u0 : Nat) (u1 : Nat) (u2 : Int32) (u3 : Int32) (u4 : Int32) (u5 : Int32), c_X4_fold_b21 F cs1 u0 u1 u2 u3 u4 u5 = some cs9 → kK cs ≤ kK cs1 → kM cs ≤ kM cs1 → ∀ (Gh H : Heap) (locs : List Loc) (ls : Array Slot), va_P (dC, dI) vwCl (cW cB cI cJ cZ cS cO b cs1) H → va_D A (cW cB cI cJ cZ cS cO b cs1) → va_S A s.heap Gh [] → Gh.size = b + kK cs1 → va_S A Gh H locs → lv_has ls 9 [(0, .ref (b + u0)), (1, .ref (b + u1)), (2, .int u2), (3, .int u3), (4, .int u4), (5, .int u5)] → W p l e (headSpec (wsOf yX4_fold cX4_fold 9 none) ({ frames := 5, cells := kK cs9 - kK cs, slots := kM cs9 - kM cs, locals := 60 * (5) } : Room)).room s m ([.ref (b + x0), .ref (b + x1), .int x2, .int x3, .int x4] : List Value).toArray below meth c H locs (kK cs1 - kK cs) (kM cs1 - kM cs) (MQ below (va_Qv (fun (_ : Unit) => True) (fun _ t_ => va_P (dC, dI) vwCl (cW cB cI cJ cZ cS cO b cs9) t_.heap ∧ va_D A (cW cB cI cJ cZ cS cO b cs9) ∧ b + kK cs9 ≤ t_.heap.size) A) ([.ref (b + x0), .ref (b + x1), .int x2, .int x3, .int x4] : List Value).toArray s (kK cs9 - kK cs) (kM cs9 - kM cs) A) (F0 m 21 ls []) := by
    intro cs1 u0 u1 u2 u3 u4 u5 h hmk hmm Gh H locs ls hP hD hG hgz hS hl
    obtain ⟨kb9, mb9⟩ := mo_c_X4_fold_b21 F cs1 u0 u1 u2 u3 u4 u5 cs9 h
    unfold c_X4_fold_b21 at h
    refine lv_iconst (v := 0) hx hb dX4_fold_21 (by decide) ?_
    refine lv_istore (lv' := [(6, .int 0), (0, .ref (b + u0)), (1, .ref (b + u1)), (2, .int u2), (3, .int u3), (4, .int u4), (5, .int u5)]) hx hb dX4_fold_22 hl (by decide) rfl (fun ls hl => ?_)
    refine W_cnt (c2 := kK cs1 - kK cs) (n2 := kM cs1 - kM cs) (by omega) (by omega) ?_
    exact L_24 F cs1 u0 u1 u2 u3 u4 u5 0 h (by omega) (by omega) _ _ _ _ hP hD hG (by omega) hS (lv_sub hl [1, 2, 3, 4, 5, 6, 0] rfl)
  have h := hf
  unfold c_X4_fold at h
  refine W_cnt (c2 := kK cs - kK cs) (n2 := kM cs - kM cs) (by omega) (by omega) ?_
  refine lv_aload_n hx hb dX4_fold_0 rfl (lv_at hl 1 rfl) ?_
  replace h := ob h; obtain ⟨v_20, hv_20, h⟩ := h
  refine fg_X4_153 hx hb hts hown hK hP hv_20 dX4_fold_1 ?_
  replace h := ob h; obtain ⟨i_21, hi_21, h⟩ := h
  subst hi_21
  replace h := ob h; obtain ⟨v_22, hv_22, h⟩ := h
  refine fg_X4_29 hx hb hts hown hK hP hv_22 dX4_fold_4 ?_
  refine lv_istore (lv' := [(5, .int v_22), (0, .ref (b + x0)), (1, .ref (b + x1)), (2, .int x2), (3, .int x3), (4, .int x4)]) hx hb dX4_fold_7 hl (by decide) rfl (fun ls hl => ?_)
  refine lv_aload_n hx hb dX4_fold_9 rfl (lv_at hl 1 rfl) ?_
  replace h := ob h; obtain ⟨v_23, hv_23, h⟩ := h
  refine fg_X4_19 hx hb hts hown hK hP hv_23 dX4_fold_10 ?_
  refine lv_iload_n hx hb dX4_fold_13 rfl (lv_at hl 3 rfl) ?_
  refine lv_iload hx hb dX4_fold_14 (lv_at hl 5 rfl) ?_
  refine lv_iload hx hb dX4_fold_16 (lv_at hl 0 rfl) ?_
  replace h := ob h; obtain ⟨i_25, hi_25, h⟩ := h
  subst hi_25
  replace h := ob h; obtain ⟨w_26, hw_26, h⟩ := h
  replace h := ob h; obtain ⟨cs_24, hv_24, h⟩ := h
  obtain ⟨qk_24, qm_24⟩ := mo_c_X8_copy F cs i_25 x2 x4 v_22 cs_24 hv_24
  obtain ⟨k9_24, m9_24⟩ := mo_c_X4_fold_b21 F cs_24 x0 x1 x2 x3 x4 v_22 cs9 h
  refine cavV (As := [.int x2, .int x4, .int v_22]) hx hb hml hts hown hK hP hD hS hG hA (by omega) (by omega) hZ (X := 9) (by decide) rfl (ckE_some hw_26) (sa_X8_copy l dC dI cB cI cJ cZ cS cO b K V fz F cs i_25 x2 x4 v_22 cs_24 hv_24) (cw_X4_X8_copy hts (fr := 4) (Nat.le_of_ble_eq_true rfl) (Nat.le_of_ble_eq_true rfl)) rfl hl.1 (Nat.le_of_ble_eq_true rfl) ⟨by show kK cs - kK cs + (kK cs_24 - kK cs) ≤ kK cs9 - kK cs; omega, by show kM cs - kM cs + (kM cs_24 - kM cs) ≤ kM cs9 - kM cs; omega⟩ dX4_fold_18 (fun H locs hP hD hG hgz hS => ?_)
  refine W_cnt (c2 := kK cs_24 - kK cs) (n2 := kM cs_24 - kM cs) (by omega) (by omega) ?_
  exact B_21 cs_24 x0 x1 x2 x3 x4 v_22 h (by omega) (by omega) _ _ _ _ hP hD hG (by omega) hS (lv_sub hl [1, 2, 3, 4, 5, 0] rfl)
theorem dX4_project_0 : decode cX4_project 0 = .ok (.iload_n 2, 1) := by decide +kernel
theorem dX4_project_1 : decode cX4_project 1 = .ok (.iload_n 3, 1) := by decide +kernel
theorem dX4_project_2 : decode cX4_project 2 = .ok (.iload 4, 2) := by decide +kernel
theorem dX4_project_4 : decode cX4_project 4 = .ok (.imul, 1) := by decide +kernel
theorem dX4_project_5 : decode cX4_project 5 = .ok (.iadd, 1) := by decide +kernel
theorem dX4_project_6 : decode cX4_project 6 = .ok (.istore 5, 2) := by decide +kernel
theorem dX4_project_8 : decode cX4_project 8 = .ok (.iconst 0, 1) := by decide +kernel
theorem dX4_project_9 : decode cX4_project 9 = .ok (.istore 6, 2) := by decide +kernel
theorem dX4_project_11 : decode cX4_project 11 = .ok (.iload 6, 2) := by decide +kernel
theorem dX4_project_13 : decode cX4_project 13 = .ok (.iload_n 3, 1) := by decide +kernel
theorem dX4_project_14 : decode cX4_project 14 = .ok (.if_icmp .ge 31, 3) := by decide +kernel
theorem dX4_project_17 : decode cX4_project 17 = .ok (.aload_n 0, 1) := by decide +kernel
theorem dX4_project_18 : decode cX4_project 18 = .ok (.aload_n 1, 1) := by decide +kernel
theorem dX4_project_19 : decode cX4_project 19 = .ok (.iload_n 2, 1) := by decide +kernel
theorem dX4_project_20 : decode cX4_project 20 = .ok (.iload 6, 2) := by decide +kernel
theorem dX4_project_22 : decode cX4_project 22 = .ok (.iload 4, 2) := by decide +kernel
theorem dX4_project_24 : decode cX4_project 24 = .ok (.imul, 1) := by decide +kernel
theorem dX4_project_25 : decode cX4_project 25 = .ok (.iadd, 1) := by decide +kernel
theorem dX4_project_26 : decode cX4_project 26 = .ok (.iload 5, 2) := by decide +kernel
theorem dX4_project_28 : decode cX4_project 28 = .ok (.iload 6, 2) := by decide +kernel
theorem dX4_project_30 : decode cX4_project 30 = .ok (.aload_n 1, 1) := by decide +kernel
theorem dX4_project_31 : decode cX4_project 31 = .ok (.getfield 29, 3) := by decide +kernel
theorem dX4_project_34 : decode cX4_project 34 = .ok (.imul, 1) := by decide +kernel
theorem dX4_project_35 : decode cX4_project 35 = .ok (.iadd, 1) := by decide +kernel
theorem dX4_project_36 : decode cX4_project 36 = .ok (.invokevirtual 93, 3) := by decide +kernel
theorem dX4_project_39 : decode cX4_project 39 = .ok (.iinc 6 1, 3) := by decide +kernel
theorem dX4_project_42 : decode cX4_project 42 = .ok (.goto (-31), 3) := by decide +kernel
theorem dX4_project_45 : decode cX4_project 45 = .ok (.aload_n 0, 1) := by decide +kernel
theorem dX4_project_46 : decode cX4_project 46 = .ok (.getfield 19, 3) := by decide +kernel
theorem dX4_project_49 : decode cX4_project 49 = .ok (.iload 5, 2) := by decide +kernel
theorem dX4_project_51 : decode cX4_project 51 = .ok (.iload_n 2, 1) := by decide +kernel
theorem dX4_project_52 : decode cX4_project 52 = .ok (.iload_n 3, 1) := by decide +kernel
theorem dX4_project_53 : decode cX4_project 53 = .ok (.aload_n 1, 1) := by decide +kernel
theorem dX4_project_54 : decode cX4_project 54 = .ok (.getfield 29, 3) := by decide +kernel
theorem dX4_project_57 : decode cX4_project 57 = .ok (.imul, 1) := by decide +kernel
theorem dX4_project_58 : decode cX4_project 58 = .ok (.invokevirtual 89, 3) := by decide +kernel
theorem dX4_project_61 : decode cX4_project 61 = .ok (.return_, 1) := by decide +kernel
def c_X4_project_b61 (F : Nat) (cs1 : CS) : Option CS := some cs1
def c_X4_project_b39 (F : Nat) (rc11 : CS → Nat → Nat → Int32 → Int32 → Int32 → Int32 → Int32 → Option CS) (cs1 : CS) (u0 : Nat) (u1 : Nat) (u2 : Int32) (u3 : Int32) (u4 : Int32) (u5 : Int32) (u6 : Int32) : Option CS := rc11 cs1 u0 u1 u2 u3 u4 u5 (u6 + 1)
def c_X4_project_L11 (F : Nat) : Nat → CS → Nat → Nat → Int32 → Int32 → Int32 → Int32 → Int32 → Option CS
  | 0, _, _, _, _, _, _, _, _ => none
  | lf_11 + 1, cs1, u0, u1, u2, u3, u4, u5, u6 => if u3 ≤ u6 then (Option.bind (gR cs1 5 162 u0) fun v_2 => Option.bind (gI cs1 3 96 u1) fun v_3 => Option.bind (v_2) fun i_5 => Option.bind (ckE cs1 9 i_5) fun _ => Option.bind (c_X8_copy F cs1 i_5 u5 u2 (u3 * v_3)) fun cs_4 => c_X4_project_b61 F cs_4) else (Option.bind (gI cs1 3 96 u1) fun v_7 => Option.bind (ckE cs1 5 u0) fun _ => Option.bind (c_X4_computeAll F cs1 u0 u1 (u2 + (u6 * u4)) (u5 + (u6 * v_7))) fun cs_8 => c_X4_project_b39 F (c_X4_project_L11 F lf_11) cs_8 u0 u1 u2 u3 u4 u5 u6)
def c_X4_project (F : Nat) (cs : CS) (x0 : Nat) (x1 : Nat) (x2 : Int32) (x3 : Int32) (x4 : Int32) : Option CS := c_X4_project_L11 F F cs x0 x1 x2 x3 x4 (x2 + (x3 * x4)) 0
theorem cw_X4_X4_project {R : Room} {s : State} {args : Array Value} {y0 : MethodName} {c0 : ByteArray} {n0 : Nat} {r0 : Option FieldType} (hts : ∀ w ∈ wsOf y0 c0 n0 r0, w.before args s = true) {fr mc ms : Nat} (h1 : fr + 1 ≤ R.frames) (h2 : 8 + (7 + 11) + 60 * fr ≤ R.locals) : CallW R s args RX4 RX4 163 yX4_project cX4_project 7 none (wsOf yX4_project cX4_project 7 none) ({ frames := fr, cells := mc, slots := ms, locals := 60 * fr } : Room) mc ms 4 := cwV 4 hts (gd_all (in_V kw_1525 kw_1527 kw_86 kw_206 kc_X4_project)) rfl rfl rfl (by decide +kernel) ⟨h1, h2⟩
theorem mo_c_X4_project_b61 (F : Nat) (cs1 : CS) (cs9 : CS) (h : c_X4_project_b61 F cs1 = some cs9) : kK cs1 ≤ kK cs9 ∧ kM cs1 ≤ kM cs9 := by
  unfold c_X4_project_b61 at h
  have h9 := Option.some.inj h
  have k9 := congrArg kK h9; have m9 := congrArg kM h9; exact ⟨by omega, by omega⟩
theorem mo_c_X4_project_b39 (F : Nat) (rc11 : CS → Nat → Nat → Int32 → Int32 → Int32 → Int32 → Int32 → Option CS) (hrc11 : ∀ (cs1 : CS) (u0 : Nat) (u1 : Nat) (u2 : Int32) (u3 : Int32) (u4 : Int32) (u5 : Int32) (u6 : Int32) (cs9 : CS), rc11 cs1 u0 u1 u2 u3 u4 u5 u6 = some cs9 → kK cs1 ≤ kK cs9 ∧ kM cs1 ≤ kM cs9) (cs1 : CS) (u0 : Nat) (u1 : Nat) (u2 : Int32) (u3 : Int32) (u4 : Int32) (u5 : Int32) (u6 : Int32) (cs9 : CS) (h : c_X4_project_b39 F rc11 cs1 u0 u1 u2 u3 u4 u5 u6 = some cs9) : kK cs1 ≤ kK cs9 ∧ kM cs1 ≤ kM cs9 := by
  unfold c_X4_project_b39 at h
  obtain ⟨k9, m9⟩ := hrc11 cs1 u0 u1 u2 u3 u4 u5 (u6 + 1) cs9 h
  exact ⟨by omega, by omega⟩
theorem mo_c_X4_project_L11 (F : Nat) : ∀ (lf_11 : Nat) (cs1 : CS) (u0 : Nat) (u1 : Nat) (u2 : Int32) (u3 : Int32) (u4 : Int32) (u5 : Int32) (u6 : Int32) (cs9 : CS), c_X4_project_L11 F lf_11 cs1 u0 u1 u2 u3 u4 u5 u6 = some cs9 → kK cs1 ≤ kK cs9 ∧ kM cs1 ≤ kM cs9 := by
  intro lf_11
  induction lf_11 with
  | zero => intro cs1 u0 u1 u2 u3 u4 u5 u6 cs9 h; cases (show (none : Option CS) = _ from h)
  | succ lf_11 ih_11 =>
    intro cs1 u0 u1 u2 u3 u4 u5 u6 cs9 h
    rw [c_X4_project_L11] at h
    by_cases c_10 : u3 ≤ u6
    · skip
      replace h := (if_pos c_10).symm.trans h
      replace h := ob h; obtain ⟨v_11, hv_11, h⟩ := h
      replace h := ob h; obtain ⟨v_12, hv_12, h⟩ := h
      replace h := ob h; obtain ⟨i_14, hi_14, h⟩ := h
      subst hi_14
      replace h := ob h; obtain ⟨w_15, hw_15, h⟩ := h
      replace h := ob h; obtain ⟨cs_13, hv_13, h⟩ := h
      obtain ⟨qk_13, qm_13⟩ := mo_c_X8_copy F cs1 i_14 u5 u2 (u3 * v_12) cs_13 hv_13
      obtain ⟨k9, m9⟩ := mo_c_X4_project_b61 F cs_13 cs9 h
      exact ⟨by omega, by omega⟩
    · skip
      replace h := (if_neg c_10).symm.trans h
      replace h := ob h; obtain ⟨v_16, hv_16, h⟩ := h
      replace h := ob h; obtain ⟨w_18, hw_18, h⟩ := h
      replace h := ob h; obtain ⟨cs_17, hv_17, h⟩ := h
      obtain ⟨qk_17, qm_17⟩ := mo_c_X4_computeAll F cs1 u0 u1 (u2 + (u6 * u4)) (u5 + (u6 * v_16)) cs_17 hv_17
      obtain ⟨k9, m9⟩ := mo_c_X4_project_b39 F (c_X4_project_L11 F lf_11) ih_11 cs_17 u0 u1 u2 u3 u4 u5 u6 cs9 h
      exact ⟨by omega, by omega⟩
theorem mo_c_X4_project (F : Nat) (cs : CS) (x0 : Nat) (x1 : Nat) (x2 : Int32) (x3 : Int32) (x4 : Int32) (cs9 : CS) (h : c_X4_project F cs x0 x1 x2 x3 x4 = some cs9) : kK cs ≤ kK cs9 ∧ kM cs ≤ kM cs9 := by
  unfold c_X4_project at h
  obtain ⟨k9, m9⟩ := mo_c_X4_project_L11 F F cs x0 x1 x2 x3 x4 (x2 + (x3 * x4)) 0 cs9 h
  exact ⟨by omega, by omega⟩
set_option maxHeartbeats 4000000 in
set_option maxRecDepth 100000 in
theorem sa_X4_project (l : Launch) (dC : Nat → ClassId) (dI : Nat → Nat → Nat) (cB cI cJ cZ cS cO : ClassId) (b : Nat) (K V : Nat → Nat) (fz : Value) (F : Nat) (cs : CS) (x0 : Nat) (x1 : Nat) (x2 : Int32) (x3 : Int32) (x4 : Int32) (cs9 : CS) (hf : c_X4_project F cs x0 x1 x2 x3 x4 = some cs9) : oaV l dC dI cB cI cJ cZ cS cO b K V fz yX4_project (wsOf yX4_project cX4_project 7 none) (6) [.ref (b + x0), .ref (b + x1), .int x2, .int x3, .int x4] cs cs9 := by
  obtain ⟨kb9, mb9⟩ := mo_c_X4_project F cs x0 x1 x2 x3 x4 cs9 hf
  refine ⟨⟨kb9, mb9⟩, ?_⟩
  refine Met.ofW (cc := cX4_project) (maxL := 7) (ret := none) (by decide) rfl ?_
  intro p e s m args below meth c s₁ B hml hv
  obtain ⟨rfl, hsz, hP, hK, hD0, hZ⟩ := hv
  have hx := B.exec
  have hb := B.bytes
  have hr := B.returns
  have hts := atoms_spec (ws := (wsOf yX4_project cX4_project 7 none)) B.pre
  have hown : s.vm.findClass RX4 = some m.cls := findClass_of_methodNamed B.named
  have hlocks := B.notSynchronized
  have hD := hD0.self (sz := b + kK cs)
  generalize hAe : va_A (cW cB cI cJ cZ cS cO b cs) (b + kK cs) = A at hD hZ ⊢
  have hA : ∀ q : Nat, s.heap.size ≤ q → A q := fun q h => by rw [← hAe]; exact Or.inr (by omega)
  have hS : va_S A s.heap s.heap [] := va_S.rf
  have hG : va_S A s.heap s.heap [] := va_S.rf
  have hgz : s.heap.size = b + kK cs := hsz
  have hl := lv_entry ([.ref (b + x0), .ref (b + x1), .int x2, .int x3, .int x4]) (n := 7) (Nat.le_of_ble_eq_true rfl)
  rw [lg_entry_eq]
  generalize (lg_sl ([.ref (b + x0), .ref (b + x1), .int x2, .int x3, .int x4]) ++ List.replicate (7 - (lg_sl ([.ref (b + x0), .ref (b + x1), .int x2, .int x3, .int x4])).length) Slot.unset).toArray = ls at hl ⊢
  have hl : lv_has ls 7 [(0, .ref (b + x0)), (1, .ref (b + x1)), (2, .int x2), (3, .int x3), (4, .int x4)] := hl
  have B_61 : ∀ (cs1 : CS) , c_X4_project_b61 F cs1 = some cs9 → kK cs ≤ kK cs1 → kM cs ≤ kM cs1 → ∀ (Gh H : Heap) (locs : List Loc) (ls : Array Slot), va_P (dC, dI) vwCl (cW cB cI cJ cZ cS cO b cs1) H → va_D A (cW cB cI cJ cZ cS cO b cs1) → va_S A s.heap Gh [] → Gh.size = b + kK cs1 → va_S A Gh H locs → lv_has ls 7 [] → W p l e (headSpec (wsOf yX4_project cX4_project 7 none) ({ frames := 6, cells := kK cs9 - kK cs, slots := kM cs9 - kM cs, locals := 60 * (6) } : Room)).room s m ([.ref (b + x0), .ref (b + x1), .int x2, .int x3, .int x4] : List Value).toArray below meth c H locs (kK cs1 - kK cs) (kM cs1 - kM cs) (MQ below (va_Qv (fun (_ : Unit) => True) (fun _ t_ => va_P (dC, dI) vwCl (cW cB cI cJ cZ cS cO b cs9) t_.heap ∧ va_D A (cW cB cI cJ cZ cS cO b cs9) ∧ b + kK cs9 ≤ t_.heap.size) A) ([.ref (b + x0), .ref (b + x1), .int x2, .int x3, .int x4] : List Value).toArray s (kK cs9 - kK cs) (kM cs9 - kM cs) A) (F0 m 61 ls []) := by
    intro cs1  h hmk hmm Gh H locs ls hP hD hG hgz hS hl
    obtain ⟨kb9, mb9⟩ := mo_c_X4_project_b61 F cs1  cs9 h
    unfold c_X4_project_b61 at h
    have e1 := Option.some.inj h
    rw [e1] at hP hD
    have e3 := congrArg kK e1
    have e4 := congrArg kM e1
    refine W_cnt (c2 := kK cs9 - kK cs) (n2 := kM cs9 - kM cs) (by omega) (by omega) ?_
    exact W.vret hx hb hr (fun t_ ht hW => ⟨⟨(), rfl, trivial, by rw [ht]; exact hP, hD, by rw [ht]; have := hS.1; omega⟩, (hG.comp hS).F ht⟩) (hG.comp hS).2.2 dX4_project_61
  have L_11 : ∀ (lf_11 : Nat), ∀ (cs1 : CS) (u0 : Nat) (u1 : Nat) (u2 : Int32) (u3 : Int32) (u4 : Int32) (u5 : Int32) (u6 : Int32), c_X4_project_L11 F lf_11 cs1 u0 u1 u2 u3 u4 u5 u6 = some cs9 → kK cs ≤ kK cs1 → kM cs ≤ kM cs1 → ∀ (Gh H : Heap) (locs : List Loc) (ls : Array Slot), va_P (dC, dI) vwCl (cW cB cI cJ cZ cS cO b cs1) H → va_D A (cW cB cI cJ cZ cS cO b cs1) → va_S A s.heap Gh [] → Gh.size = b + kK cs1 → va_S A Gh H locs → lv_has ls 7 [(0, .ref (b + u0)), (1, .ref (b + u1)), (2, .int u2), (3, .int u3), (4, .int u4), (5, .int u5), (6, .int u6)] → W p l e (headSpec (wsOf yX4_project cX4_project 7 none) ({ frames := 6, cells := kK cs9 - kK cs, slots := kM cs9 - kM cs, locals := 60 * (6) } : Room)).room s m ([.ref (b + x0), .ref (b + x1), .int x2, .int x3, .int x4] : List Value).toArray below meth c H locs (kK cs1 - kK cs) (kM cs1 - kM cs) (MQ below (va_Qv (fun (_ : Unit) => True) (fun _ t_ => va_P (dC, dI) vwCl (cW cB cI cJ cZ cS cO b cs9) t_.heap ∧ va_D A (cW cB cI cJ cZ cS cO b cs9) ∧ b + kK cs9 ≤ t_.heap.size) A) ([.ref (b + x0), .ref (b + x1), .int x2, .int x3, .int x4] : List Value).toArray s (kK cs9 - kK cs) (kM cs9 - kM cs) A) (F0 m 11 ls []) := by
    intro lf_11
    induction lf_11 with
    | zero => intro cs1 u0 u1 u2 u3 u4 u5 u6 h; cases (show (none : Option CS) = _ from h)
    | succ lf_11 ih_11 =>
      have B_39 : ∀ (cs1 : CS) (u0 : Nat) (u1 : Nat) (u2 : Int32) (u3 : Int32) (u4 : Int32) (u5 : Int32) (u6 : Int32), c_X4_project_b39 F (c_X4_project_L11 F lf_11) cs1 u0 u1 u2 u3 u4 u5 u6 = some cs9 → kK cs ≤ kK cs1 → kM cs ≤ kM cs1 → ∀ (Gh H : Heap) (locs : List Loc) (ls : Array Slot), va_P (dC, dI) vwCl (cW cB cI cJ cZ cS cO b cs1) H → va_D A (cW cB cI cJ cZ cS cO b cs1) → va_S A s.heap Gh [] → Gh.size = b + kK cs1 → va_S A Gh H locs → lv_has ls 7 [(0, .ref (b + u0)), (1, .ref (b + u1)), (2, .int u2), (3, .int u3), (4, .int u4), (5, .int u5), (6, .int u6)] → W p l e (headSpec (wsOf yX4_project cX4_project 7 none) ({ frames := 6, cells := kK cs9 - kK cs, slots := kM cs9 - kM cs, locals := 60 * (6) } : Room)).room s m ([.ref (b + x0), .ref (b + x1), .int x2, .int x3, .int x4] : List Value).toArray below meth c H locs (kK cs1 - kK cs) (kM cs1 - kM cs) (MQ below (va_Qv (fun (_ : Unit) => True) (fun _ t_ => va_P (dC, dI) vwCl (cW cB cI cJ cZ cS cO b cs9) t_.heap ∧ va_D A (cW cB cI cJ cZ cS cO b cs9) ∧ b + kK cs9 ≤ t_.heap.size) A) ([.ref (b + x0), .ref (b + x1), .int x2, .int x3, .int x4] : List Value).toArray s (kK cs9 - kK cs) (kM cs9 - kM cs) A) (F0 m 39 ls []) := by
        intro cs1 u0 u1 u2 u3 u4 u5 u6 h hmk hmm Gh H locs ls hP hD hG hgz hS hl
        obtain ⟨kb9, mb9⟩ := mo_c_X4_project_b39 F (c_X4_project_L11 F lf_11) (mo_c_X4_project_L11 F lf_11) cs1 u0 u1 u2 u3 u4 u5 u6 cs9 h
        unfold c_X4_project_b39 at h
        refine lv_iinc (v := u6 + 1) (lv' := [(6, .int (u6 + 1)), (0, .ref (b + u0)), (1, .ref (b + u1)), (2, .int u2), (3, .int u3), (4, .int u4), (5, .int u5)]) hx hb dX4_project_39 hl (k := 6) rfl rfl (by decide) rfl (fun ls hl => ?_)
        refine lv_goto (tgt := 11) hx hb dX4_project_42 (by decide) ?_
        refine W_cnt (c2 := kK cs1 - kK cs) (n2 := kM cs1 - kM cs) (by omega) (by omega) ?_
        exact ih_11 cs1 u0 u1 u2 u3 u4 u5 (u6 + 1) h (by omega) (by omega) _ _ _ _ hP hD hG (by omega) hS (lv_sub hl [1, 2, 3, 4, 5, 6, 0] rfl)
      intro cs1 u0 u1 u2 u3 u4 u5 u6 h hmk hmm Gh H locs ls hP hD hG hgz hS hl
      obtain ⟨kb9, mb9⟩ := mo_c_X4_project_L11 F (lf_11 + 1) cs1 u0 u1 u2 u3 u4 u5 u6 cs9 h
      rw [c_X4_project_L11] at h
      refine lv_iload hx hb dX4_project_11 (lv_at hl 6 rfl) ?_
      refine lv_iload_n hx hb dX4_project_13 rfl (lv_at hl 3 rfl) ?_
      refine lv_icmp_ge (tgt := 45) hx hb dX4_project_14 (by decide) (fun c_1 => ?_) (fun c_1 => ?_)
      · skip
        replace h := (if_pos c_1).symm.trans h
        refine lv_aload_n hx hb dX4_project_45 rfl (lv_at hl 0 rfl) ?_
        replace h := ob h; obtain ⟨v_2, hv_2, h⟩ := h
        refine fg_X4_19 hx hb hts hown hK hP hv_2 dX4_project_46 ?_
        refine lv_iload hx hb dX4_project_49 (lv_at hl 5 rfl) ?_
        refine lv_iload_n hx hb dX4_project_51 rfl (lv_at hl 2 rfl) ?_
        refine lv_iload_n hx hb dX4_project_52 rfl (lv_at hl 3 rfl) ?_
        refine lv_aload_n hx hb dX4_project_53 rfl (lv_at hl 1 rfl) ?_
        replace h := ob h; obtain ⟨v_3, hv_3, h⟩ := h
        refine fg_X4_29 hx hb hts hown hK hP hv_3 dX4_project_54 ?_
        refine lv_imul hx hb dX4_project_57 ?_
        replace h := ob h; obtain ⟨i_5, hi_5, h⟩ := h
        subst hi_5
        replace h := ob h; obtain ⟨w_6, hw_6, h⟩ := h
        replace h := ob h; obtain ⟨cs_4, hv_4, h⟩ := h
        obtain ⟨qk_4, qm_4⟩ := mo_c_X8_copy F cs1 i_5 u5 u2 (u3 * v_3) cs_4 hv_4
        obtain ⟨k9_4, m9_4⟩ := mo_c_X4_project_b61 F cs_4 cs9 h
        refine cavV (As := [.int u5, .int u2, .int (u3 * v_3)]) hx hb hml hts hown hK hP hD hS hG hA (by omega) (by omega) hZ (X := 9) (by decide) rfl (ckE_some hw_6) (sa_X8_copy l dC dI cB cI cJ cZ cS cO b K V fz F cs1 i_5 u5 u2 (u3 * v_3) cs_4 hv_4) (cw_X4_X8_copy hts (fr := 4) (Nat.le_of_ble_eq_true rfl) (Nat.le_of_ble_eq_true rfl)) rfl hl.1 (Nat.le_of_ble_eq_true rfl) ⟨by show kK cs1 - kK cs + (kK cs_4 - kK cs1) ≤ kK cs9 - kK cs; omega, by show kM cs1 - kM cs + (kM cs_4 - kM cs1) ≤ kM cs9 - kM cs; omega⟩ dX4_project_58 (fun H locs hP hD hG hgz hS => ?_)
        refine W_cnt (c2 := kK cs_4 - kK cs) (n2 := kM cs_4 - kM cs) (by omega) (by omega) ?_
        exact B_61 cs_4 h (by omega) (by omega) _ _ _ _ hP hD hG (by omega) hS (lv_sub hl [] rfl)
      · skip
        replace h := (if_neg c_1).symm.trans h
        refine lv_aload_n hx hb dX4_project_17 rfl (lv_at hl 0 rfl) ?_
        refine lv_aload_n hx hb dX4_project_18 rfl (lv_at hl 1 rfl) ?_
        refine lv_iload_n hx hb dX4_project_19 rfl (lv_at hl 2 rfl) ?_
        refine lv_iload hx hb dX4_project_20 (lv_at hl 6 rfl) ?_
        refine lv_iload hx hb dX4_project_22 (lv_at hl 4 rfl) ?_
        refine lv_imul hx hb dX4_project_24 ?_
        refine lv_iadd hx hb dX4_project_25 ?_
        refine lv_iload hx hb dX4_project_26 (lv_at hl 5 rfl) ?_
        refine lv_iload hx hb dX4_project_28 (lv_at hl 6 rfl) ?_
        refine lv_aload_n hx hb dX4_project_30 rfl (lv_at hl 1 rfl) ?_
        replace h := ob h; obtain ⟨v_7, hv_7, h⟩ := h
        refine fg_X4_29 hx hb hts hown hK hP hv_7 dX4_project_31 ?_
        refine lv_imul hx hb dX4_project_34 ?_
        refine lv_iadd hx hb dX4_project_35 ?_
        replace h := ob h; obtain ⟨w_9, hw_9, h⟩ := h
        replace h := ob h; obtain ⟨cs_8, hv_8, h⟩ := h
        obtain ⟨qk_8, qm_8⟩ := mo_c_X4_computeAll F cs1 u0 u1 (u2 + (u6 * u4)) (u5 + (u6 * v_7)) cs_8 hv_8
        obtain ⟨k9_8, m9_8⟩ := mo_c_X4_project_b39 F (c_X4_project_L11 F lf_11) (mo_c_X4_project_L11 F lf_11) cs_8 u0 u1 u2 u3 u4 u5 u6 cs9 h
        refine cavV (As := [.ref (b + u1), .int (u2 + (u6 * u4)), .int (u5 + (u6 * v_7))]) hx hb hml hts hown hK hP hD hS hG hA (by omega) (by omega) hZ (X := 5) (by decide) rfl (ckE_some hw_9) (sa_X4_computeAll l dC dI cB cI cJ cZ cS cO b K V fz F cs1 u0 u1 (u2 + (u6 * u4)) (u5 + (u6 * v_7)) cs_8 hv_8) (cw_X4_X4_computeAll hts (fr := 5) (Nat.le_of_ble_eq_true rfl) (Nat.le_of_ble_eq_true rfl)) rfl hl.1 (Nat.le_of_ble_eq_true rfl) ⟨by show kK cs1 - kK cs + (kK cs_8 - kK cs1) ≤ kK cs9 - kK cs; omega, by show kM cs1 - kM cs + (kM cs_8 - kM cs1) ≤ kM cs9 - kM cs; omega⟩ dX4_project_36 (fun H locs hP hD hG hgz hS => ?_)
        refine W_cnt (c2 := kK cs_8 - kK cs) (n2 := kM cs_8 - kM cs) (by omega) (by omega) ?_
        exact B_39 cs_8 u0 u1 u2 u3 u4 u5 u6 h (by omega) (by omega) _ _ _ _ hP hD hG (by omega) hS (lv_sub hl [0, 1, 2, 3, 4, 5, 6] rfl)
  have h := hf
  unfold c_X4_project at h
  refine W_cnt (c2 := kK cs - kK cs) (n2 := kM cs - kM cs) (by omega) (by omega) ?_
  refine lv_iload_n hx hb dX4_project_0 rfl (lv_at hl 2 rfl) ?_
  refine lv_iload_n hx hb dX4_project_1 rfl (lv_at hl 3 rfl) ?_
  refine lv_iload hx hb dX4_project_2 (lv_at hl 4 rfl) ?_
  refine lv_imul hx hb dX4_project_4 ?_
  refine lv_iadd hx hb dX4_project_5 ?_
  refine lv_istore (lv' := [(5, .int (x2 + (x3 * x4))), (0, .ref (b + x0)), (1, .ref (b + x1)), (2, .int x2), (3, .int x3), (4, .int x4)]) hx hb dX4_project_6 hl (by decide) rfl (fun ls hl => ?_)
  refine lv_iconst (v := 0) hx hb dX4_project_8 (by decide) ?_
  refine lv_istore (lv' := [(6, .int 0), (5, .int (x2 + (x3 * x4))), (0, .ref (b + x0)), (1, .ref (b + x1)), (2, .int x2), (3, .int x3), (4, .int x4)]) hx hb dX4_project_9 hl (by decide) rfl (fun ls hl => ?_)
  refine W_cnt (c2 := kK cs - kK cs) (n2 := kM cs - kM cs) (by omega) (by omega) ?_
  exact L_11 F cs x0 x1 x2 x3 x4 (x2 + (x3 * x4)) 0 h (by omega) (by omega) _ _ _ _ hP hD hG (by omega) hS (lv_sub hl [2, 3, 4, 5, 6, 1, 0] rfl)
theorem dX8_once_0 : decode cX8_once 0 = .ok (.iconst 0, 1) := by decide +kernel
theorem dX8_once_1 : decode cX8_once 1 = .ok (.istore 4, 2) := by decide +kernel
theorem dX8_once_3 : decode cX8_once 3 = .ok (.iconst 0, 1) := by decide +kernel
theorem dX8_once_4 : decode cX8_once 4 = .ok (.istore 5, 2) := by decide +kernel
theorem dX8_once_6 : decode cX8_once 6 = .ok (.iload 5, 2) := by decide +kernel
theorem dX8_once_8 : decode cX8_once 8 = .ok (.iload_n 2, 1) := by decide +kernel
theorem dX8_once_9 : decode cX8_once 9 = .ok (.if_icmp .ge 62, 3) := by decide +kernel
theorem dX8_once_12 : decode cX8_once 12 = .ok (.iload_n 1, 1) := by decide +kernel
theorem dX8_once_13 : decode cX8_once 13 = .ok (.iload 5, 2) := by decide +kernel
theorem dX8_once_15 : decode cX8_once 15 = .ok (.iload_n 3, 1) := by decide +kernel
theorem dX8_once_16 : decode cX8_once 16 = .ok (.imul, 1) := by decide +kernel
theorem dX8_once_17 : decode cX8_once 17 = .ok (.iadd, 1) := by decide +kernel
theorem dX8_once_18 : decode cX8_once 18 = .ok (.istore 6, 2) := by decide +kernel
theorem dX8_once_20 : decode cX8_once 20 = .ok (.iload_n 1, 1) := by decide +kernel
theorem dX8_once_21 : decode cX8_once 21 = .ok (.iload 4, 2) := by decide +kernel
theorem dX8_once_23 : decode cX8_once 23 = .ok (.iconst 1, 1) := by decide +kernel
theorem dX8_once_24 : decode cX8_once 24 = .ok (.isub, 1) := by decide +kernel
theorem dX8_once_25 : decode cX8_once 25 = .ok (.iload_n 3, 1) := by decide +kernel
theorem dX8_once_26 : decode cX8_once 26 = .ok (.imul, 1) := by decide +kernel
theorem dX8_once_27 : decode cX8_once 27 = .ok (.iadd, 1) := by decide +kernel
theorem dX8_once_28 : decode cX8_once 28 = .ok (.istore 7, 2) := by decide +kernel
theorem dX8_once_30 : decode cX8_once 30 = .ok (.iload 4, 2) := by decide +kernel
theorem dX8_once_32 : decode cX8_once 32 = .ok (.ifCond .eq 17, 3) := by decide +kernel
theorem dX8_once_35 : decode cX8_once 35 = .ok (.aload_n 0, 1) := by decide +kernel
theorem dX8_once_36 : decode cX8_once 36 = .ok (.iload 7, 2) := by decide +kernel
theorem dX8_once_38 : decode cX8_once 38 = .ok (.aload_n 0, 1) := by decide +kernel
theorem dX8_once_39 : decode cX8_once 39 = .ok (.iload 6, 2) := by decide +kernel
theorem dX8_once_41 : decode cX8_once 41 = .ok (.iload_n 3, 1) := by decide +kernel
theorem dX8_once_42 : decode cX8_once 42 = .ok (.iconst 0, 1) := by decide +kernel
theorem dX8_once_43 : decode cX8_once 43 = .ok (.invokevirtual 65, 3) := by decide +kernel
theorem dX8_once_46 : decode cX8_once 46 = .ok (.ifCond .eq 19, 3) := by decide +kernel
theorem dX8_once_49 : decode cX8_once 49 = .ok (.aload_n 0, 1) := by decide +kernel
theorem dX8_once_50 : decode cX8_once 50 = .ok (.iload 6, 2) := by decide +kernel
theorem dX8_once_52 : decode cX8_once 52 = .ok (.iload_n 1, 1) := by decide +kernel
theorem dX8_once_53 : decode cX8_once 53 = .ok (.iload 4, 2) := by decide +kernel
theorem dX8_once_55 : decode cX8_once 55 = .ok (.iload_n 3, 1) := by decide +kernel
theorem dX8_once_56 : decode cX8_once 56 = .ok (.imul, 1) := by decide +kernel
theorem dX8_once_57 : decode cX8_once 57 = .ok (.iadd, 1) := by decide +kernel
theorem dX8_once_58 : decode cX8_once 58 = .ok (.iload_n 3, 1) := by decide +kernel
theorem dX8_once_59 : decode cX8_once 59 = .ok (.invokevirtual 73, 3) := by decide +kernel
theorem dX8_once_62 : decode cX8_once 62 = .ok (.iinc 4 1, 3) := by decide +kernel
theorem dX8_once_65 : decode cX8_once 65 = .ok (.iinc 5 1, 3) := by decide +kernel
theorem dX8_once_68 : decode cX8_once 68 = .ok (.goto (-62), 3) := by decide +kernel
theorem dX8_once_71 : decode cX8_once 71 = .ok (.iload 4, 2) := by decide +kernel
theorem dX8_once_73 : decode cX8_once 73 = .ok (.ireturn, 1) := by decide +kernel
def c_X8_once_b65 (F : Nat) (rc6 : CS → Nat → Int32 → Int32 → Int32 → Int32 → Int32 → Option (CS × Int32)) (cs1 : CS) (u0 : Nat) (u1 : Int32) (u2 : Int32) (u3 : Int32) (u4 : Int32) (u5 : Int32) : Option (CS × Int32) := rc6 cs1 u0 u1 u2 u3 u4 (u5 + 1)
def c_X8_once_b62 (F : Nat) (rc6 : CS → Nat → Int32 → Int32 → Int32 → Int32 → Int32 → Option (CS × Int32)) (cs1 : CS) (u0 : Nat) (u1 : Int32) (u2 : Int32) (u3 : Int32) (u4 : Int32) (u5 : Int32) : Option (CS × Int32) := c_X8_once_b65 F rc6 cs1 u0 u1 u2 u3 (u4 + 1) u5
def c_X8_once_b49 (F : Nat) (rc6 : CS → Nat → Int32 → Int32 → Int32 → Int32 → Int32 → Option (CS × Int32)) (cs1 : CS) (u0 : Nat) (u1 : Int32) (u2 : Int32) (u3 : Int32) (u4 : Int32) (u5 : Int32) (u6 : Int32) : Option (CS × Int32) := Option.bind (ckE cs1 9 u0) fun _ => Option.bind (c_X8_copy F cs1 u0 u6 (u1 + (u4 * u3)) u3) fun cs_1 => c_X8_once_b62 F rc6 cs_1 u0 u1 u2 u3 u4 u5
def c_X8_once_L6 (F : Nat) : Nat → CS → Nat → Int32 → Int32 → Int32 → Int32 → Int32 → Option (CS × Int32)
  | 0, _, _, _, _, _, _, _ => none
  | lf_6 + 1, cs1, u0, u1, u2, u3, u4, u5 => if u2 ≤ u5 then (some (cs1, u4)) else (if u4 = 0 then (c_X8_once_b49 F (c_X8_once_L6 F lf_6) cs1 u0 u1 u2 u3 u4 u5 (u1 + (u5 * u3))) else (Option.bind (ckE cs1 9 u0) fun _ => Option.bind (c_X8_compareRows F cs1 u0 (u1 + ((u4 - 1) * u3)) u0 (u1 + (u5 * u3)) u3 0) fun v_5 => if v_5 = 0 then (c_X8_once_b65 F (c_X8_once_L6 F lf_6) cs1 u0 u1 u2 u3 u4 u5) else (c_X8_once_b49 F (c_X8_once_L6 F lf_6) cs1 u0 u1 u2 u3 u4 u5 (u1 + (u5 * u3)))))
def c_X8_once (F : Nat) (cs : CS) (x0 : Nat) (x1 : Int32) (x2 : Int32) (x3 : Int32) : Option (CS × Int32) := c_X8_once_L6 F F cs x0 x1 x2 x3 0 0
theorem cw_X4_X8_once {R : Room} {s : State} {args : Array Value} {y0 : MethodName} {c0 : ByteArray} {n0 : Nat} {r0 : Option FieldType} (hts : ∀ w ∈ wsOf y0 c0 n0 r0, w.before args s = true) {fr mc ms : Nat} (h1 : fr + 1 ≤ R.frames) (h2 : 8 + (8 + 11) + 60 * fr ≤ R.locals) : CallW R s args RX4 RX8 81 yX8_once cX8_once 8 (some .int) (wsOf yX8_once cX8_once 8 (some .int)) ({ frames := fr, cells := mc, slots := ms, locals := 60 * fr } : Room) mc ms 3 := cwV 3 hts (gd_all (in_V kw_1529 kw_1530 kw_1531 kw_188 kc_X8_once)) rfl rfl rfl (by decide +kernel) ⟨h1, h2⟩
theorem mo_c_X8_once_b65 (F : Nat) (rc6 : CS → Nat → Int32 → Int32 → Int32 → Int32 → Int32 → Option (CS × Int32)) (hrc6 : ∀ (cs1 : CS) (u0 : Nat) (u1 : Int32) (u2 : Int32) (u3 : Int32) (u4 : Int32) (u5 : Int32) (cs9 : CS) (r9 : Int32), rc6 cs1 u0 u1 u2 u3 u4 u5 = some (cs9, r9) → kK cs1 ≤ kK cs9 ∧ kM cs1 ≤ kM cs9) (cs1 : CS) (u0 : Nat) (u1 : Int32) (u2 : Int32) (u3 : Int32) (u4 : Int32) (u5 : Int32) (cs9 : CS) (r9 : Int32) (h : c_X8_once_b65 F rc6 cs1 u0 u1 u2 u3 u4 u5 = some (cs9, r9)) : kK cs1 ≤ kK cs9 ∧ kM cs1 ≤ kM cs9 := by
  unfold c_X8_once_b65 at h
  obtain ⟨k9, m9⟩ := hrc6 cs1 u0 u1 u2 u3 u4 (u5 + 1) cs9 r9 h
  exact ⟨by omega, by omega⟩
theorem mo_c_X8_once_b62 (F : Nat) (rc6 : CS → Nat → Int32 → Int32 → Int32 → Int32 → Int32 → Option (CS × Int32)) (hrc6 : ∀ (cs1 : CS) (u0 : Nat) (u1 : Int32) (u2 : Int32) (u3 : Int32) (u4 : Int32) (u5 : Int32) (cs9 : CS) (r9 : Int32), rc6 cs1 u0 u1 u2 u3 u4 u5 = some (cs9, r9) → kK cs1 ≤ kK cs9 ∧ kM cs1 ≤ kM cs9) (cs1 : CS) (u0 : Nat) (u1 : Int32) (u2 : Int32) (u3 : Int32) (u4 : Int32) (u5 : Int32) (cs9 : CS) (r9 : Int32) (h : c_X8_once_b62 F rc6 cs1 u0 u1 u2 u3 u4 u5 = some (cs9, r9)) : kK cs1 ≤ kK cs9 ∧ kM cs1 ≤ kM cs9 := by
  unfold c_X8_once_b62 at h
  obtain ⟨k9, m9⟩ := mo_c_X8_once_b65 F rc6 hrc6 cs1 u0 u1 u2 u3 (u4 + 1) u5 cs9 r9 h
  exact ⟨by omega, by omega⟩
theorem mo_c_X8_once_b49 (F : Nat) (rc6 : CS → Nat → Int32 → Int32 → Int32 → Int32 → Int32 → Option (CS × Int32)) (hrc6 : ∀ (cs1 : CS) (u0 : Nat) (u1 : Int32) (u2 : Int32) (u3 : Int32) (u4 : Int32) (u5 : Int32) (cs9 : CS) (r9 : Int32), rc6 cs1 u0 u1 u2 u3 u4 u5 = some (cs9, r9) → kK cs1 ≤ kK cs9 ∧ kM cs1 ≤ kM cs9) (cs1 : CS) (u0 : Nat) (u1 : Int32) (u2 : Int32) (u3 : Int32) (u4 : Int32) (u5 : Int32) (u6 : Int32) (cs9 : CS) (r9 : Int32) (h : c_X8_once_b49 F rc6 cs1 u0 u1 u2 u3 u4 u5 u6 = some (cs9, r9)) : kK cs1 ≤ kK cs9 ∧ kM cs1 ≤ kM cs9 := by
  unfold c_X8_once_b49 at h
  replace h := ob h; obtain ⟨w_9, hw_9, h⟩ := h
  replace h := ob h; obtain ⟨cs_8, hv_8, h⟩ := h
  obtain ⟨qk_8, qm_8⟩ := mo_c_X8_copy F cs1 u0 u6 (u1 + (u4 * u3)) u3 cs_8 hv_8
  obtain ⟨k9, m9⟩ := mo_c_X8_once_b62 F rc6 hrc6 cs_8 u0 u1 u2 u3 u4 u5 cs9 r9 h
  exact ⟨by omega, by omega⟩
theorem mo_c_X8_once_L6 (F : Nat) : ∀ (lf_6 : Nat) (cs1 : CS) (u0 : Nat) (u1 : Int32) (u2 : Int32) (u3 : Int32) (u4 : Int32) (u5 : Int32) (cs9 : CS) (r9 : Int32), c_X8_once_L6 F lf_6 cs1 u0 u1 u2 u3 u4 u5 = some (cs9, r9) → kK cs1 ≤ kK cs9 ∧ kM cs1 ≤ kM cs9 := by
  intro lf_6
  induction lf_6 with
  | zero => intro cs1 u0 u1 u2 u3 u4 u5 cs9 r9 h; cases (show (none : Option (CS × Int32)) = _ from h)
  | succ lf_6 ih_6 =>
    intro cs1 u0 u1 u2 u3 u4 u5 cs9 r9 h
    rw [c_X8_once_L6] at h
    by_cases c_8 : u2 ≤ u5
    · skip
      replace h := (if_pos c_8).symm.trans h
      have h9 := (Prod.mk.inj (Option.some.inj h)).1
      have k9 := congrArg kK h9; have m9 := congrArg kM h9; exact ⟨by omega, by omega⟩
    · skip
      replace h := (if_neg c_8).symm.trans h
      by_cases c_9 : u4 = 0
      · skip
        replace h := (if_pos c_9).symm.trans h
        obtain ⟨k9, m9⟩ := mo_c_X8_once_b49 F (c_X8_once_L6 F lf_6) ih_6 cs1 u0 u1 u2 u3 u4 u5 (u1 + (u5 * u3)) cs9 r9 h
        exact ⟨by omega, by omega⟩
      · skip
        replace h := (if_neg c_9).symm.trans h
        replace h := ob h; obtain ⟨w_11, hw_11, h⟩ := h
        replace h := ob h; obtain ⟨v_10, hv_10, h⟩ := h
        by_cases c_12 : v_10 = 0
        · skip
          replace h := (if_pos c_12).symm.trans h
          obtain ⟨k9, m9⟩ := mo_c_X8_once_b65 F (c_X8_once_L6 F lf_6) ih_6 cs1 u0 u1 u2 u3 u4 u5 cs9 r9 h
          exact ⟨by omega, by omega⟩
        · skip
          replace h := (if_neg c_12).symm.trans h
          obtain ⟨k9, m9⟩ := mo_c_X8_once_b49 F (c_X8_once_L6 F lf_6) ih_6 cs1 u0 u1 u2 u3 u4 u5 (u1 + (u5 * u3)) cs9 r9 h
          exact ⟨by omega, by omega⟩
theorem mo_c_X8_once (F : Nat) (cs : CS) (x0 : Nat) (x1 : Int32) (x2 : Int32) (x3 : Int32) (cs9 : CS) (r9 : Int32) (h : c_X8_once F cs x0 x1 x2 x3 = some (cs9, r9)) : kK cs ≤ kK cs9 ∧ kM cs ≤ kM cs9 := by
  unfold c_X8_once at h
  obtain ⟨k9, m9⟩ := mo_c_X8_once_L6 F F cs x0 x1 x2 x3 0 0 cs9 r9 h
  exact ⟨by omega, by omega⟩
set_option maxHeartbeats 4000000 in
set_option maxRecDepth 100000 in
theorem sa_X8_once (l : Launch) (dC : Nat → ClassId) (dI : Nat → Nat → Nat) (cB cI cJ cZ cS cO : ClassId) (b : Nat) (K V : Nat → Nat) (fz : Value) (F : Nat) (cs : CS) (x0 : Nat) (x1 : Int32) (x2 : Int32) (x3 : Int32) (cs9 : CS) (r9 : Int32) (hf : c_X8_once F cs x0 x1 x2 x3 = some (cs9, r9)) : oaI l dC dI cB cI cJ cZ cS cO b K V fz yX8_once (wsOf yX8_once cX8_once 8 (some .int)) (5) [.ref (b + x0), .int x1, .int x2, .int x3] cs cs9 r9 := by
  obtain ⟨kb9, mb9⟩ := mo_c_X8_once F cs x0 x1 x2 x3 cs9 r9 hf
  refine ⟨⟨kb9, mb9⟩, ?_⟩
  refine Met.ofW (cc := cX8_once) (maxL := 8) (ret := (some .int)) (by decide) rfl ?_
  intro p e s m args below meth c s₁ B hml hv
  obtain ⟨rfl, hsz, hP, hK, hD0, hZ⟩ := hv
  have hx := B.exec
  have hb := B.bytes
  have hr := B.returns
  have hts := atoms_spec (ws := (wsOf yX8_once cX8_once 8 (some .int))) B.pre
  have hown : s.vm.findClass RX8 = some m.cls := findClass_of_methodNamed B.named
  have hlocks := B.notSynchronized
  have hD := hD0.self (sz := b + kK cs)
  generalize hAe : va_A (cW cB cI cJ cZ cS cO b cs) (b + kK cs) = A at hD hZ ⊢
  have hA : ∀ q : Nat, s.heap.size ≤ q → A q := fun q h => by rw [← hAe]; exact Or.inr (by omega)
  have hS : va_S A s.heap s.heap [] := va_S.rf
  have hG : va_S A s.heap s.heap [] := va_S.rf
  have hgz : s.heap.size = b + kK cs := hsz
  have hl := lv_entry ([.ref (b + x0), .int x1, .int x2, .int x3]) (n := 8) (Nat.le_of_ble_eq_true rfl)
  rw [lg_entry_eq]
  generalize (lg_sl ([.ref (b + x0), .int x1, .int x2, .int x3]) ++ List.replicate (8 - (lg_sl ([.ref (b + x0), .int x1, .int x2, .int x3])).length) Slot.unset).toArray = ls at hl ⊢
  have hl : lv_has ls 8 [(0, .ref (b + x0)), (1, .int x1), (2, .int x2), (3, .int x3)] := hl
  have L_6 : ∀ (lf_6 : Nat), ∀ (cs1 : CS) (u0 : Nat) (u1 : Int32) (u2 : Int32) (u3 : Int32) (u4 : Int32) (u5 : Int32), c_X8_once_L6 F lf_6 cs1 u0 u1 u2 u3 u4 u5 = some (cs9, r9) → kK cs ≤ kK cs1 → kM cs ≤ kM cs1 → ∀ (Gh H : Heap) (locs : List Loc) (ls : Array Slot), va_P (dC, dI) vwCl (cW cB cI cJ cZ cS cO b cs1) H → va_D A (cW cB cI cJ cZ cS cO b cs1) → va_S A s.heap Gh [] → Gh.size = b + kK cs1 → va_S A Gh H locs → lv_has ls 8 [(0, .ref (b + u0)), (1, .int u1), (2, .int u2), (3, .int u3), (4, .int u4), (5, .int u5)] → W p l e (headSpec (wsOf yX8_once cX8_once 8 (some .int)) ({ frames := 5, cells := kK cs9 - kK cs, slots := kM cs9 - kM cs, locals := 60 * (5) } : Room)).room s m ([.ref (b + x0), .int x1, .int x2, .int x3] : List Value).toArray below meth c H locs (kK cs1 - kK cs) (kM cs1 - kM cs) (MQ below (va_Qi (fun (x : Int32) (_ : Unit) => x = r9) (fun _ t_ => va_P (dC, dI) vwCl (cW cB cI cJ cZ cS cO b cs9) t_.heap ∧ va_D A (cW cB cI cJ cZ cS cO b cs9) ∧ b + kK cs9 ≤ t_.heap.size) A) ([.ref (b + x0), .int x1, .int x2, .int x3] : List Value).toArray s (kK cs9 - kK cs) (kM cs9 - kM cs) A) (F0 m 6 ls []) := by
    intro lf_6
    induction lf_6 with
    | zero => intro cs1 u0 u1 u2 u3 u4 u5 h; cases (show (none : Option (CS × Int32)) = _ from h)
    | succ lf_6 ih_6 =>
      have B_65 : ∀ (cs1 : CS) (u0 : Nat) (u1 : Int32) (u2 : Int32) (u3 : Int32) (u4 : Int32) (u5 : Int32), c_X8_once_b65 F (c_X8_once_L6 F lf_6) cs1 u0 u1 u2 u3 u4 u5 = some (cs9, r9) → kK cs ≤ kK cs1 → kM cs ≤ kM cs1 → ∀ (Gh H : Heap) (locs : List Loc) (ls : Array Slot), va_P (dC, dI) vwCl (cW cB cI cJ cZ cS cO b cs1) H → va_D A (cW cB cI cJ cZ cS cO b cs1) → va_S A s.heap Gh [] → Gh.size = b + kK cs1 → va_S A Gh H locs → lv_has ls 8 [(0, .ref (b + u0)), (1, .int u1), (2, .int u2), (3, .int u3), (4, .int u4), (5, .int u5)] → W p l e (headSpec (wsOf yX8_once cX8_once 8 (some .int)) ({ frames := 5, cells := kK cs9 - kK cs, slots := kM cs9 - kM cs, locals := 60 * (5) } : Room)).room s m ([.ref (b + x0), .int x1, .int x2, .int x3] : List Value).toArray below meth c H locs (kK cs1 - kK cs) (kM cs1 - kM cs) (MQ below (va_Qi (fun (x : Int32) (_ : Unit) => x = r9) (fun _ t_ => va_P (dC, dI) vwCl (cW cB cI cJ cZ cS cO b cs9) t_.heap ∧ va_D A (cW cB cI cJ cZ cS cO b cs9) ∧ b + kK cs9 ≤ t_.heap.size) A) ([.ref (b + x0), .int x1, .int x2, .int x3] : List Value).toArray s (kK cs9 - kK cs) (kM cs9 - kM cs) A) (F0 m 65 ls []) := by
        intro cs1 u0 u1 u2 u3 u4 u5 h hmk hmm Gh H locs ls hP hD hG hgz hS hl
        obtain ⟨kb9, mb9⟩ := mo_c_X8_once_b65 F (c_X8_once_L6 F lf_6) (mo_c_X8_once_L6 F lf_6) cs1 u0 u1 u2 u3 u4 u5 cs9 r9 h
        unfold c_X8_once_b65 at h
        refine lv_iinc (v := u5 + 1) (lv' := [(5, .int (u5 + 1)), (0, .ref (b + u0)), (1, .int u1), (2, .int u2), (3, .int u3), (4, .int u4)]) hx hb dX8_once_65 hl (k := 5) rfl rfl (by decide) rfl (fun ls hl => ?_)
        refine lv_goto (tgt := 6) hx hb dX8_once_68 (by decide) ?_
        refine W_cnt (c2 := kK cs1 - kK cs) (n2 := kM cs1 - kM cs) (by omega) (by omega) ?_
        exact ih_6 cs1 u0 u1 u2 u3 u4 (u5 + 1) h (by omega) (by omega) _ _ _ _ hP hD hG (by omega) hS (lv_sub hl [1, 2, 3, 4, 5, 0] rfl)
      have B_62 : ∀ (cs1 : CS) (u0 : Nat) (u1 : Int32) (u2 : Int32) (u3 : Int32) (u4 : Int32) (u5 : Int32), c_X8_once_b62 F (c_X8_once_L6 F lf_6) cs1 u0 u1 u2 u3 u4 u5 = some (cs9, r9) → kK cs ≤ kK cs1 → kM cs ≤ kM cs1 → ∀ (Gh H : Heap) (locs : List Loc) (ls : Array Slot), va_P (dC, dI) vwCl (cW cB cI cJ cZ cS cO b cs1) H → va_D A (cW cB cI cJ cZ cS cO b cs1) → va_S A s.heap Gh [] → Gh.size = b + kK cs1 → va_S A Gh H locs → lv_has ls 8 [(0, .ref (b + u0)), (1, .int u1), (2, .int u2), (3, .int u3), (4, .int u4), (5, .int u5)] → W p l e (headSpec (wsOf yX8_once cX8_once 8 (some .int)) ({ frames := 5, cells := kK cs9 - kK cs, slots := kM cs9 - kM cs, locals := 60 * (5) } : Room)).room s m ([.ref (b + x0), .int x1, .int x2, .int x3] : List Value).toArray below meth c H locs (kK cs1 - kK cs) (kM cs1 - kM cs) (MQ below (va_Qi (fun (x : Int32) (_ : Unit) => x = r9) (fun _ t_ => va_P (dC, dI) vwCl (cW cB cI cJ cZ cS cO b cs9) t_.heap ∧ va_D A (cW cB cI cJ cZ cS cO b cs9) ∧ b + kK cs9 ≤ t_.heap.size) A) ([.ref (b + x0), .int x1, .int x2, .int x3] : List Value).toArray s (kK cs9 - kK cs) (kM cs9 - kM cs) A) (F0 m 62 ls []) := by
        intro cs1 u0 u1 u2 u3 u4 u5 h hmk hmm Gh H locs ls hP hD hG hgz hS hl
        obtain ⟨kb9, mb9⟩ := mo_c_X8_once_b62 F (c_X8_once_L6 F lf_6) (mo_c_X8_once_L6 F lf_6) cs1 u0 u1 u2 u3 u4 u5 cs9 r9 h
        unfold c_X8_once_b62 at h
        refine lv_iinc (v := u4 + 1) (lv' := [(4, .int (u4 + 1)), (0, .ref (b + u0)), (1, .int u1), (2, .int u2), (3, .int u3), (5, .int u5)]) hx hb dX8_once_62 hl (k := 4) rfl rfl (by decide) rfl (fun ls hl => ?_)
        refine W_cnt (c2 := kK cs1 - kK cs) (n2 := kM cs1 - kM cs) (by omega) (by omega) ?_
        exact B_65 cs1 u0 u1 u2 u3 (u4 + 1) u5 h (by omega) (by omega) _ _ _ _ hP hD hG (by omega) hS (lv_sub hl [1, 2, 3, 4, 0, 5] rfl)
      have B_49 : ∀ (cs1 : CS) (u0 : Nat) (u1 : Int32) (u2 : Int32) (u3 : Int32) (u4 : Int32) (u5 : Int32) (u6 : Int32), c_X8_once_b49 F (c_X8_once_L6 F lf_6) cs1 u0 u1 u2 u3 u4 u5 u6 = some (cs9, r9) → kK cs ≤ kK cs1 → kM cs ≤ kM cs1 → ∀ (Gh H : Heap) (locs : List Loc) (ls : Array Slot), va_P (dC, dI) vwCl (cW cB cI cJ cZ cS cO b cs1) H → va_D A (cW cB cI cJ cZ cS cO b cs1) → va_S A s.heap Gh [] → Gh.size = b + kK cs1 → va_S A Gh H locs → lv_has ls 8 [(0, .ref (b + u0)), (1, .int u1), (2, .int u2), (3, .int u3), (4, .int u4), (5, .int u5), (6, .int u6)] → W p l e (headSpec (wsOf yX8_once cX8_once 8 (some .int)) ({ frames := 5, cells := kK cs9 - kK cs, slots := kM cs9 - kM cs, locals := 60 * (5) } : Room)).room s m ([.ref (b + x0), .int x1, .int x2, .int x3] : List Value).toArray below meth c H locs (kK cs1 - kK cs) (kM cs1 - kM cs) (MQ below (va_Qi (fun (x : Int32) (_ : Unit) => x = r9) (fun _ t_ => va_P (dC, dI) vwCl (cW cB cI cJ cZ cS cO b cs9) t_.heap ∧ va_D A (cW cB cI cJ cZ cS cO b cs9) ∧ b + kK cs9 ≤ t_.heap.size) A) ([.ref (b + x0), .int x1, .int x2, .int x3] : List Value).toArray s (kK cs9 - kK cs) (kM cs9 - kM cs) A) (F0 m 49 ls []) := by
        intro cs1 u0 u1 u2 u3 u4 u5 u6 h hmk hmm Gh H locs ls hP hD hG hgz hS hl
        obtain ⟨kb9, mb9⟩ := mo_c_X8_once_b49 F (c_X8_once_L6 F lf_6) (mo_c_X8_once_L6 F lf_6) cs1 u0 u1 u2 u3 u4 u5 u6 cs9 r9 h
        unfold c_X8_once_b49 at h
        refine lv_aload_n hx hb dX8_once_49 rfl (lv_at hl 0 rfl) ?_
        refine lv_iload hx hb dX8_once_50 (lv_at hl 6 rfl) ?_
        refine lv_iload_n hx hb dX8_once_52 rfl (lv_at hl 1 rfl) ?_
        refine lv_iload hx hb dX8_once_53 (lv_at hl 4 rfl) ?_
        refine lv_iload_n hx hb dX8_once_55 rfl (lv_at hl 3 rfl) ?_
        refine lv_imul hx hb dX8_once_56 ?_
        refine lv_iadd hx hb dX8_once_57 ?_
        refine lv_iload_n hx hb dX8_once_58 rfl (lv_at hl 3 rfl) ?_
        replace h := ob h; obtain ⟨w_2, hw_2, h⟩ := h
        replace h := ob h; obtain ⟨cs_1, hv_1, h⟩ := h
        obtain ⟨qk_1, qm_1⟩ := mo_c_X8_copy F cs1 u0 u6 (u1 + (u4 * u3)) u3 cs_1 hv_1
        obtain ⟨k9_1, m9_1⟩ := mo_c_X8_once_b62 F (c_X8_once_L6 F lf_6) (mo_c_X8_once_L6 F lf_6) cs_1 u0 u1 u2 u3 u4 u5 cs9 r9 h
        refine cavV (As := [.int u6, .int (u1 + (u4 * u3)), .int u3]) hx hb hml hts hown hK hP hD hS hG hA (by omega) (by omega) hZ (X := 9) (by decide) rfl (ckE_some hw_2) (sa_X8_copy l dC dI cB cI cJ cZ cS cO b K V fz F cs1 u0 u6 (u1 + (u4 * u3)) u3 cs_1 hv_1) (cw_X8_X8_copy hts (fr := 4) (Nat.le_of_ble_eq_true rfl) (Nat.le_of_ble_eq_true rfl)) rfl hl.1 (Nat.le_of_ble_eq_true rfl) ⟨by show kK cs1 - kK cs + (kK cs_1 - kK cs1) ≤ kK cs9 - kK cs; omega, by show kM cs1 - kM cs + (kM cs_1 - kM cs1) ≤ kM cs9 - kM cs; omega⟩ dX8_once_59 (fun H locs hP hD hG hgz hS => ?_)
        refine W_cnt (c2 := kK cs_1 - kK cs) (n2 := kM cs_1 - kM cs) (by omega) (by omega) ?_
        exact B_62 cs_1 u0 u1 u2 u3 u4 u5 h (by omega) (by omega) _ _ _ _ hP hD hG (by omega) hS (lv_sub hl [0, 1, 2, 3, 4, 5] rfl)
      intro cs1 u0 u1 u2 u3 u4 u5 h hmk hmm Gh H locs ls hP hD hG hgz hS hl
      obtain ⟨kb9, mb9⟩ := mo_c_X8_once_L6 F (lf_6 + 1) cs1 u0 u1 u2 u3 u4 u5 cs9 r9 h
      rw [c_X8_once_L6] at h
      refine lv_iload hx hb dX8_once_6 (lv_at hl 5 rfl) ?_
      refine lv_iload_n hx hb dX8_once_8 rfl (lv_at hl 2 rfl) ?_
      refine lv_icmp_ge (tgt := 71) hx hb dX8_once_9 (by decide) (fun c_3 => ?_) (fun c_3 => ?_)
      · skip
        replace h := (if_pos c_3).symm.trans h
        refine lv_iload hx hb dX8_once_71 (lv_at hl 4 rfl) ?_
        obtain ⟨e1, e2⟩ := Prod.mk.inj (Option.some.inj h)
        rw [e1] at hP hD
        have e3 := congrArg kK e1
        have e4 := congrArg kM e1
        refine W_cnt (c2 := kK cs9 - kK cs) (n2 := kM cs9 - kM cs) (by omega) (by omega) ?_
        exact W.iret (v := u4) hx hb hr (fun t_ ht hW => ⟨⟨u4, (), rfl, e2, by rw [ht]; exact hP, hD, by rw [ht]; have := hS.1; omega⟩, (hG.comp hS).F ht⟩) (hG.comp hS).2.2 dX8_once_73
      · skip
        replace h := (if_neg c_3).symm.trans h
        refine lv_iload_n hx hb dX8_once_12 rfl (lv_at hl 1 rfl) ?_
        refine lv_iload hx hb dX8_once_13 (lv_at hl 5 rfl) ?_
        refine lv_iload_n hx hb dX8_once_15 rfl (lv_at hl 3 rfl) ?_
        refine lv_imul hx hb dX8_once_16 ?_
        refine lv_iadd hx hb dX8_once_17 ?_
        refine lv_istore (lv' := [(6, .int (u1 + (u5 * u3))), (0, .ref (b + u0)), (1, .int u1), (2, .int u2), (3, .int u3), (4, .int u4), (5, .int u5)]) hx hb dX8_once_18 hl (by decide) rfl (fun ls hl => ?_)
        refine lv_iload_n hx hb dX8_once_20 rfl (lv_at hl 2 rfl) ?_
        refine lv_iload hx hb dX8_once_21 (lv_at hl 5 rfl) ?_
        refine lv_iconst (v := 1) hx hb dX8_once_23 (by decide) ?_
        refine lv_isub hx hb dX8_once_24 ?_
        refine lv_iload_n hx hb dX8_once_25 rfl (lv_at hl 4 rfl) ?_
        refine lv_imul hx hb dX8_once_26 ?_
        refine lv_iadd hx hb dX8_once_27 ?_
        refine lv_istore (lv' := [(7, .int (u1 + ((u4 - 1) * u3))), (6, .int (u1 + (u5 * u3))), (0, .ref (b + u0)), (1, .int u1), (2, .int u2), (3, .int u3), (4, .int u4), (5, .int u5)]) hx hb dX8_once_28 hl (by decide) rfl (fun ls hl => ?_)
        refine lv_iload hx hb dX8_once_30 (lv_at hl 6 rfl) ?_
        refine lv_if_eq (tgt := 49) hx hb dX8_once_32 (by decide) (fun c_4 => ?_) (fun c_4 => ?_)
        · skip
          replace h := (if_pos c_4).symm.trans h
          refine W_cnt (c2 := kK cs1 - kK cs) (n2 := kM cs1 - kM cs) (by omega) (by omega) ?_
          exact B_49 cs1 u0 u1 u2 u3 u4 u5 (u1 + (u5 * u3)) h (by omega) (by omega) _ _ _ _ hP hD hG (by omega) hS (lv_sub hl [2, 3, 4, 5, 6, 7, 1] rfl)
        · skip
          replace h := (if_neg c_4).symm.trans h
          refine lv_aload_n hx hb dX8_once_35 rfl (lv_at hl 2 rfl) ?_
          refine lv_iload hx hb dX8_once_36 (lv_at hl 0 rfl) ?_
          refine lv_aload_n hx hb dX8_once_38 rfl (lv_at hl 2 rfl) ?_
          refine lv_iload hx hb dX8_once_39 (lv_at hl 1 rfl) ?_
          refine lv_iload_n hx hb dX8_once_41 rfl (lv_at hl 5 rfl) ?_
          refine lv_iconst (v := 0) hx hb dX8_once_42 (by decide) ?_
          replace h := ob h; obtain ⟨w_6, hw_6, h⟩ := h
          replace h := ob h; obtain ⟨v_5, hv_5, h⟩ := h
          refine cbvI (As := [.int (u1 + ((u4 - 1) * u3)), .ref (b + u0), .int (u1 + (u5 * u3)), .int u3, .int 0]) hx hb hml hts hown hK hP hD hS hG hA (by omega) (by omega) hZ (X := 9) (by decide) rfl (ckE_some hw_6) (sc_X8_compareRows l dC dI cB cI cJ cZ cS cO b K V fz F cs1 u0 (u1 + ((u4 - 1) * u3)) u0 (u1 + (u5 * u3)) u3 0 v_5 hv_5) (cw_X8_X8_compareRows hts (fr := 1) (Nat.le_of_ble_eq_true rfl) (Nat.le_of_ble_eq_true rfl)) rfl hl.1 (Nat.le_of_ble_eq_true rfl) ⟨by show kK cs1 - kK cs ≤ kK cs9 - kK cs; omega, by show kM cs1 - kM cs ≤ kM cs9 - kM cs; omega⟩ dX8_once_43 (fun H locs hP hD hG hgz hS => ?_)
          refine lv_if_eq (tgt := 65) hx hb dX8_once_46 (by decide) (fun c_7 => ?_) (fun c_7 => ?_)
          · skip
            replace h := (if_pos c_7).symm.trans h
            refine W_cnt (c2 := kK cs1 - kK cs) (n2 := kM cs1 - kM cs) (by omega) (by omega) ?_
            exact B_65 cs1 u0 u1 u2 u3 u4 u5 h (by omega) (by omega) _ _ _ _ hP hD hG (by omega) hS (lv_sub hl [2, 3, 4, 5, 6, 7] rfl)
          · skip
            replace h := (if_neg c_7).symm.trans h
            refine W_cnt (c2 := kK cs1 - kK cs) (n2 := kM cs1 - kM cs) (by omega) (by omega) ?_
            exact B_49 cs1 u0 u1 u2 u3 u4 u5 (u1 + (u5 * u3)) h (by omega) (by omega) _ _ _ _ hP hD hG (by omega) hS (lv_sub hl [2, 3, 4, 5, 6, 7, 1] rfl)
  have h := hf
  unfold c_X8_once at h
  refine W_cnt (c2 := kK cs - kK cs) (n2 := kM cs - kM cs) (by omega) (by omega) ?_
  refine lv_iconst (v := 0) hx hb dX8_once_0 (by decide) ?_
  refine lv_istore (lv' := [(4, .int 0), (0, .ref (b + x0)), (1, .int x1), (2, .int x2), (3, .int x3)]) hx hb dX8_once_1 hl (by decide) rfl (fun ls hl => ?_)
  refine lv_iconst (v := 0) hx hb dX8_once_3 (by decide) ?_
  refine lv_istore (lv' := [(5, .int 0), (4, .int 0), (0, .ref (b + x0)), (1, .int x1), (2, .int x2), (3, .int x3)]) hx hb dX8_once_4 hl (by decide) rfl (fun ls hl => ?_)
  refine W_cnt (c2 := kK cs - kK cs) (n2 := kM cs - kM cs) (by omega) (by omega) ?_
  exact L_6 F cs x0 x1 x2 x3 0 0 h (by omega) (by omega) _ _ _ _ hP hD hG (by omega) hS (lv_sub hl [2, 3, 4, 5, 1, 0] rfl)
theorem dX4_sift_0 : decode cX4_sift 0 = .ok (.iload_n 2, 1) := by decide +kernel
theorem dX4_sift_1 : decode cX4_sift 1 = .ok (.iload_n 3, 1) := by decide +kernel
theorem dX4_sift_2 : decode cX4_sift 2 = .ok (.iload 5, 2) := by decide +kernel
theorem dX4_sift_4 : decode cX4_sift 4 = .ok (.imul, 1) := by decide +kernel
theorem dX4_sift_5 : decode cX4_sift 5 = .ok (.iadd, 1) := by decide +kernel
theorem dX4_sift_6 : decode cX4_sift 6 = .ok (.istore 6, 2) := by decide +kernel
theorem dX4_sift_8 : decode cX4_sift 8 = .ok (.iconst 0, 1) := by decide +kernel
theorem dX4_sift_9 : decode cX4_sift 9 = .ok (.istore 7, 2) := by decide +kernel
theorem dX4_sift_11 : decode cX4_sift 11 = .ok (.iconst 0, 1) := by decide +kernel
theorem dX4_sift_12 : decode cX4_sift 12 = .ok (.istore 8, 2) := by decide +kernel
theorem dX4_sift_14 : decode cX4_sift 14 = .ok (.iload 8, 2) := by decide +kernel
theorem dX4_sift_16 : decode cX4_sift 16 = .ok (.iload_n 3, 1) := by decide +kernel
theorem dX4_sift_17 : decode cX4_sift 17 = .ok (.if_icmp .ge 103, 3) := by decide +kernel
theorem dX4_sift_20 : decode cX4_sift 20 = .ok (.iload_n 2, 1) := by decide +kernel
theorem dX4_sift_21 : decode cX4_sift 21 = .ok (.iload 8, 2) := by decide +kernel
theorem dX4_sift_23 : decode cX4_sift 23 = .ok (.iload 5, 2) := by decide +kernel
theorem dX4_sift_25 : decode cX4_sift 25 = .ok (.imul, 1) := by decide +kernel
theorem dX4_sift_26 : decode cX4_sift 26 = .ok (.iadd, 1) := by decide +kernel
theorem dX4_sift_27 : decode cX4_sift 27 = .ok (.istore 9, 2) := by decide +kernel
theorem dX4_sift_29 : decode cX4_sift 29 = .ok (.iconst 0, 1) := by decide +kernel
theorem dX4_sift_30 : decode cX4_sift 30 = .ok (.istore 10, 2) := by decide +kernel
theorem dX4_sift_32 : decode cX4_sift 32 = .ok (.iconst 0, 1) := by decide +kernel
theorem dX4_sift_33 : decode cX4_sift 33 = .ok (.istore 11, 2) := by decide +kernel
theorem dX4_sift_35 : decode cX4_sift 35 = .ok (.iload 11, 2) := by decide +kernel
theorem dX4_sift_37 : decode cX4_sift 37 = .ok (.iload 4, 2) := by decide +kernel
theorem dX4_sift_39 : decode cX4_sift 39 = .ok (.if_icmp .ge 48, 3) := by decide +kernel
theorem dX4_sift_42 : decode cX4_sift 42 = .ok (.iload 10, 2) := by decide +kernel
theorem dX4_sift_44 : decode cX4_sift 44 = .ok (.ifCond .ne 43, 3) := by decide +kernel
theorem dX4_sift_47 : decode cX4_sift 47 = .ok (.aload_n 0, 1) := by decide +kernel
theorem dX4_sift_48 : decode cX4_sift 48 = .ok (.getfield 19, 3) := by decide +kernel
theorem dX4_sift_51 : decode cX4_sift 51 = .ok (.iload 9, 2) := by decide +kernel
theorem dX4_sift_53 : decode cX4_sift 53 = .ok (.aload_n 0, 1) := by decide +kernel
theorem dX4_sift_54 : decode cX4_sift 54 = .ok (.getfield 19, 3) := by decide +kernel
theorem dX4_sift_57 : decode cX4_sift 57 = .ok (.iload 6, 2) := by decide +kernel
theorem dX4_sift_59 : decode cX4_sift 59 = .ok (.iload 11, 2) := by decide +kernel
theorem dX4_sift_61 : decode cX4_sift 61 = .ok (.iload 5, 2) := by decide +kernel
theorem dX4_sift_63 : decode cX4_sift 63 = .ok (.imul, 1) := by decide +kernel
theorem dX4_sift_64 : decode cX4_sift 64 = .ok (.iadd, 1) := by decide +kernel
theorem dX4_sift_65 : decode cX4_sift 65 = .ok (.iload 5, 2) := by decide +kernel
theorem dX4_sift_67 : decode cX4_sift 67 = .ok (.iconst 0, 1) := by decide +kernel
theorem dX4_sift_68 : decode cX4_sift 68 = .ok (.invokevirtual 85, 3) := by decide +kernel
theorem dX4_sift_71 : decode cX4_sift 71 = .ok (.ifCond .ne 7, 3) := by decide +kernel
theorem dX4_sift_74 : decode cX4_sift 74 = .ok (.iconst 1, 1) := by decide +kernel
theorem dX4_sift_75 : decode cX4_sift 75 = .ok (.goto 4, 3) := by decide +kernel
theorem dX4_sift_78 : decode cX4_sift 78 = .ok (.iconst 0, 1) := by decide +kernel
theorem dX4_sift_79 : decode cX4_sift 79 = .ok (.istore 10, 2) := by decide +kernel
theorem dX4_sift_81 : decode cX4_sift 81 = .ok (.iinc 11 1, 3) := by decide +kernel
theorem dX4_sift_84 : decode cX4_sift 84 = .ok (.goto (-49), 3) := by decide +kernel
theorem dX4_sift_87 : decode cX4_sift 87 = .ok (.iload 10, 2) := by decide +kernel
theorem dX4_sift_89 : decode cX4_sift 89 = .ok (.iload_n 1, 1) := by decide +kernel
theorem dX4_sift_90 : decode cX4_sift 90 = .ok (.if_icmp .ne 24, 3) := by decide +kernel
theorem dX4_sift_93 : decode cX4_sift 93 = .ok (.aload_n 0, 1) := by decide +kernel
theorem dX4_sift_94 : decode cX4_sift 94 = .ok (.getfield 19, 3) := by decide +kernel
theorem dX4_sift_97 : decode cX4_sift 97 = .ok (.iload 9, 2) := by decide +kernel
theorem dX4_sift_99 : decode cX4_sift 99 = .ok (.iload_n 2, 1) := by decide +kernel
theorem dX4_sift_100 : decode cX4_sift 100 = .ok (.iload 7, 2) := by decide +kernel
theorem dX4_sift_102 : decode cX4_sift 102 = .ok (.iload 5, 2) := by decide +kernel
theorem dX4_sift_104 : decode cX4_sift 104 = .ok (.imul, 1) := by decide +kernel
theorem dX4_sift_105 : decode cX4_sift 105 = .ok (.iadd, 1) := by decide +kernel
theorem dX4_sift_106 : decode cX4_sift 106 = .ok (.iload 5, 2) := by decide +kernel
theorem dX4_sift_108 : decode cX4_sift 108 = .ok (.invokevirtual 89, 3) := by decide +kernel
theorem dX4_sift_111 : decode cX4_sift 111 = .ok (.iinc 7 1, 3) := by decide +kernel
theorem dX4_sift_114 : decode cX4_sift 114 = .ok (.iinc 8 1, 3) := by decide +kernel
theorem dX4_sift_117 : decode cX4_sift 117 = .ok (.goto (-103), 3) := by decide +kernel
theorem dX4_sift_120 : decode cX4_sift 120 = .ok (.iload 7, 2) := by decide +kernel
theorem dX4_sift_122 : decode cX4_sift 122 = .ok (.ireturn, 1) := by decide +kernel
def c_X4_sift_b114 (F : Nat) (rc14 : CS → Nat → Int32 → Int32 → Int32 → Int32 → Int32 → Int32 → Int32 → Int32 → Option (CS × Int32)) (cs1 : CS) (u0 : Nat) (u1 : Int32) (u2 : Int32) (u3 : Int32) (u4 : Int32) (u5 : Int32) (u6 : Int32) (u7 : Int32) (u8 : Int32) : Option (CS × Int32) := rc14 cs1 u0 u1 u2 u3 u4 u5 u6 u7 (u8 + 1)
def c_X4_sift_b111 (F : Nat) (rc14 : CS → Nat → Int32 → Int32 → Int32 → Int32 → Int32 → Int32 → Int32 → Int32 → Option (CS × Int32)) (cs1 : CS) (u0 : Nat) (u1 : Int32) (u2 : Int32) (u3 : Int32) (u4 : Int32) (u5 : Int32) (u6 : Int32) (u7 : Int32) (u8 : Int32) : Option (CS × Int32) := c_X4_sift_b114 F rc14 cs1 u0 u1 u2 u3 u4 u5 u6 (u7 + 1) u8
def c_X4_sift_b87 (F : Nat) (rc14 : CS → Nat → Int32 → Int32 → Int32 → Int32 → Int32 → Int32 → Int32 → Int32 → Option (CS × Int32)) (cs1 : CS) (u0 : Nat) (u1 : Int32) (u2 : Int32) (u3 : Int32) (u4 : Int32) (u5 : Int32) (u6 : Int32) (u7 : Int32) (u8 : Int32) (u9 : Int32) (u10 : Int32) : Option (CS × Int32) := if u10 = u1 then (Option.bind (gR cs1 5 162 u0) fun v_2 => Option.bind (v_2) fun i_4 => Option.bind (ckE cs1 9 i_4) fun _ => Option.bind (c_X8_copy F cs1 i_4 u9 (u2 + (u7 * u5)) u5) fun cs_3 => c_X4_sift_b111 F rc14 cs_3 u0 u1 u2 u3 u4 u5 u6 u7 u8) else (c_X4_sift_b114 F rc14 cs1 u0 u1 u2 u3 u4 u5 u6 u7 u8)
def c_X4_sift_b79 (F : Nat) (rc14 : CS → Nat → Int32 → Int32 → Int32 → Int32 → Int32 → Int32 → Int32 → Int32 → Option (CS × Int32)) (rc35 : CS → Nat → Int32 → Int32 → Int32 → Int32 → Int32 → Int32 → Int32 → Int32 → Int32 → Int32 → Int32 → Option (CS × Int32)) (cs1 : CS) (u0 : Nat) (u1 : Int32) (u2 : Int32) (u3 : Int32) (u4 : Int32) (u5 : Int32) (u6 : Int32) (u7 : Int32) (u8 : Int32) (u9 : Int32) (u11 : Int32) (y0 : Int32) : Option (CS × Int32) := rc35 cs1 u0 u1 u2 u3 u4 u5 u6 u7 u8 u9 y0 (u11 + 1)
def c_X4_sift_L35 (F : Nat) (rc14 : CS → Nat → Int32 → Int32 → Int32 → Int32 → Int32 → Int32 → Int32 → Int32 → Option (CS × Int32)) : Nat → CS → Nat → Int32 → Int32 → Int32 → Int32 → Int32 → Int32 → Int32 → Int32 → Int32 → Int32 → Int32 → Option (CS × Int32)
  | 0, _, _, _, _, _, _, _, _, _, _, _, _, _ => none
  | lf_35 + 1, cs1, u0, u1, u2, u3, u4, u5, u6, u7, u8, u9, u10, u11 => if u4 ≤ u11 then (c_X4_sift_b87 F rc14 cs1 u0 u1 u2 u3 u4 u5 u6 u7 u8 u9 u10) else (if u10 = 0 then (Option.bind (gR cs1 5 162 u0) fun v_8 => Option.bind (gR cs1 5 162 u0) fun v_9 => Option.bind (v_9) fun i_10 => Option.bind (v_8) fun i_12 => Option.bind (ckE cs1 9 i_12) fun _ => Option.bind (c_X8_compareRows F cs1 i_12 u9 i_10 (u6 + (u11 * u5)) u5 0) fun v_11 => if v_11 = 0 then (c_X4_sift_b79 F rc14 (c_X4_sift_L35 F rc14 lf_35) cs1 u0 u1 u2 u3 u4 u5 u6 u7 u8 u9 u11 1) else (c_X4_sift_b79 F rc14 (c_X4_sift_L35 F rc14 lf_35) cs1 u0 u1 u2 u3 u4 u5 u6 u7 u8 u9 u11 0)) else (c_X4_sift_b87 F rc14 cs1 u0 u1 u2 u3 u4 u5 u6 u7 u8 u9 u10))
def c_X4_sift_L14 (F : Nat) : Nat → CS → Nat → Int32 → Int32 → Int32 → Int32 → Int32 → Int32 → Int32 → Int32 → Option (CS × Int32)
  | 0, _, _, _, _, _, _, _, _, _, _ => none
  | lf_14 + 1, cs1, u0, u1, u2, u3, u4, u5, u6, u7, u8 => if u3 ≤ u8 then (some (cs1, u7)) else (c_X4_sift_L35 F (c_X4_sift_L14 F lf_14) F cs1 u0 u1 u2 u3 u4 u5 u6 u7 u8 (u2 + (u8 * u5)) 0 0)
def c_X4_sift (F : Nat) (cs : CS) (x0 : Nat) (x1 : Int32) (x2 : Int32) (x3 : Int32) (x4 : Int32) (x5 : Int32) : Option (CS × Int32) := c_X4_sift_L14 F F cs x0 x1 x2 x3 x4 x5 (x2 + (x3 * x5)) 0 0
theorem cw_X4_X4_sift {R : Room} {s : State} {args : Array Value} {y0 : MethodName} {c0 : ByteArray} {n0 : Nat} {r0 : Option FieldType} (hts : ∀ w ∈ wsOf y0 c0 n0 r0, w.before args s = true) {fr mc ms : Nat} (h1 : fr + 1 ≤ R.frames) (h2 : 8 + (12 + 11) + 60 * fr ≤ R.locals) : CallW R s args RX4 RX4 71 yX4_sift cX4_sift 12 (some .int) (wsOf yX4_sift cX4_sift 12 (some .int)) ({ frames := fr, cells := mc, slots := ms, locals := 60 * fr } : Room) mc ms 5 := cwV 5 hts (gd_all (in_V kw_1537 kw_1539 kw_88 kw_206 kc_X4_sift)) rfl rfl rfl (by decide +kernel) ⟨h1, h2⟩
theorem mo_c_X4_sift_b114 (F : Nat) (rc14 : CS → Nat → Int32 → Int32 → Int32 → Int32 → Int32 → Int32 → Int32 → Int32 → Option (CS × Int32)) (hrc14 : ∀ (cs1 : CS) (u0 : Nat) (u1 : Int32) (u2 : Int32) (u3 : Int32) (u4 : Int32) (u5 : Int32) (u6 : Int32) (u7 : Int32) (u8 : Int32) (cs9 : CS) (r9 : Int32), rc14 cs1 u0 u1 u2 u3 u4 u5 u6 u7 u8 = some (cs9, r9) → kK cs1 ≤ kK cs9 ∧ kM cs1 ≤ kM cs9) (cs1 : CS) (u0 : Nat) (u1 : Int32) (u2 : Int32) (u3 : Int32) (u4 : Int32) (u5 : Int32) (u6 : Int32) (u7 : Int32) (u8 : Int32) (cs9 : CS) (r9 : Int32) (h : c_X4_sift_b114 F rc14 cs1 u0 u1 u2 u3 u4 u5 u6 u7 u8 = some (cs9, r9)) : kK cs1 ≤ kK cs9 ∧ kM cs1 ≤ kM cs9 := by
  unfold c_X4_sift_b114 at h
  obtain ⟨k9, m9⟩ := hrc14 cs1 u0 u1 u2 u3 u4 u5 u6 u7 (u8 + 1) cs9 r9 h
  exact ⟨by omega, by omega⟩
theorem mo_c_X4_sift_b111 (F : Nat) (rc14 : CS → Nat → Int32 → Int32 → Int32 → Int32 → Int32 → Int32 → Int32 → Int32 → Option (CS × Int32)) (hrc14 : ∀ (cs1 : CS) (u0 : Nat) (u1 : Int32) (u2 : Int32) (u3 : Int32) (u4 : Int32) (u5 : Int32) (u6 : Int32) (u7 : Int32) (u8 : Int32) (cs9 : CS) (r9 : Int32), rc14 cs1 u0 u1 u2 u3 u4 u5 u6 u7 u8 = some (cs9, r9) → kK cs1 ≤ kK cs9 ∧ kM cs1 ≤ kM cs9) (cs1 : CS) (u0 : Nat) (u1 : Int32) (u2 : Int32) (u3 : Int32) (u4 : Int32) (u5 : Int32) (u6 : Int32) (u7 : Int32) (u8 : Int32) (cs9 : CS) (r9 : Int32) (h : c_X4_sift_b111 F rc14 cs1 u0 u1 u2 u3 u4 u5 u6 u7 u8 = some (cs9, r9)) : kK cs1 ≤ kK cs9 ∧ kM cs1 ≤ kM cs9 := by
  unfold c_X4_sift_b111 at h
  obtain ⟨k9, m9⟩ := mo_c_X4_sift_b114 F rc14 hrc14 cs1 u0 u1 u2 u3 u4 u5 u6 (u7 + 1) u8 cs9 r9 h
  exact ⟨by omega, by omega⟩
theorem mo_c_X4_sift_b87 (F : Nat) (rc14 : CS → Nat → Int32 → Int32 → Int32 → Int32 → Int32 → Int32 → Int32 → Int32 → Option (CS × Int32)) (hrc14 : ∀ (cs1 : CS) (u0 : Nat) (u1 : Int32) (u2 : Int32) (u3 : Int32) (u4 : Int32) (u5 : Int32) (u6 : Int32) (u7 : Int32) (u8 : Int32) (cs9 : CS) (r9 : Int32), rc14 cs1 u0 u1 u2 u3 u4 u5 u6 u7 u8 = some (cs9, r9) → kK cs1 ≤ kK cs9 ∧ kM cs1 ≤ kM cs9) (cs1 : CS) (u0 : Nat) (u1 : Int32) (u2 : Int32) (u3 : Int32) (u4 : Int32) (u5 : Int32) (u6 : Int32) (u7 : Int32) (u8 : Int32) (u9 : Int32) (u10 : Int32) (cs9 : CS) (r9 : Int32) (h : c_X4_sift_b87 F rc14 cs1 u0 u1 u2 u3 u4 u5 u6 u7 u8 u9 u10 = some (cs9, r9)) : kK cs1 ≤ kK cs9 ∧ kM cs1 ≤ kM cs9 := by
  unfold c_X4_sift_b87 at h
  by_cases c_16 : u10 = u1
  · skip
    replace h := (if_pos c_16).symm.trans h
    replace h := ob h; obtain ⟨v_17, hv_17, h⟩ := h
    replace h := ob h; obtain ⟨i_19, hi_19, h⟩ := h
    subst hi_19
    replace h := ob h; obtain ⟨w_20, hw_20, h⟩ := h
    replace h := ob h; obtain ⟨cs_18, hv_18, h⟩ := h
    obtain ⟨qk_18, qm_18⟩ := mo_c_X8_copy F cs1 i_19 u9 (u2 + (u7 * u5)) u5 cs_18 hv_18
    obtain ⟨k9, m9⟩ := mo_c_X4_sift_b111 F rc14 hrc14 cs_18 u0 u1 u2 u3 u4 u5 u6 u7 u8 cs9 r9 h
    exact ⟨by omega, by omega⟩
  · skip
    replace h := (if_neg c_16).symm.trans h
    obtain ⟨k9, m9⟩ := mo_c_X4_sift_b114 F rc14 hrc14 cs1 u0 u1 u2 u3 u4 u5 u6 u7 u8 cs9 r9 h
    exact ⟨by omega, by omega⟩
theorem mo_c_X4_sift_b79 (F : Nat) (rc14 : CS → Nat → Int32 → Int32 → Int32 → Int32 → Int32 → Int32 → Int32 → Int32 → Option (CS × Int32)) (hrc14 : ∀ (cs1 : CS) (u0 : Nat) (u1 : Int32) (u2 : Int32) (u3 : Int32) (u4 : Int32) (u5 : Int32) (u6 : Int32) (u7 : Int32) (u8 : Int32) (cs9 : CS) (r9 : Int32), rc14 cs1 u0 u1 u2 u3 u4 u5 u6 u7 u8 = some (cs9, r9) → kK cs1 ≤ kK cs9 ∧ kM cs1 ≤ kM cs9) (rc35 : CS → Nat → Int32 → Int32 → Int32 → Int32 → Int32 → Int32 → Int32 → Int32 → Int32 → Int32 → Int32 → Option (CS × Int32)) (hrc35 : ∀ (cs1 : CS) (u0 : Nat) (u1 : Int32) (u2 : Int32) (u3 : Int32) (u4 : Int32) (u5 : Int32) (u6 : Int32) (u7 : Int32) (u8 : Int32) (u9 : Int32) (u10 : Int32) (u11 : Int32) (cs9 : CS) (r9 : Int32), rc35 cs1 u0 u1 u2 u3 u4 u5 u6 u7 u8 u9 u10 u11 = some (cs9, r9) → kK cs1 ≤ kK cs9 ∧ kM cs1 ≤ kM cs9) (cs1 : CS) (u0 : Nat) (u1 : Int32) (u2 : Int32) (u3 : Int32) (u4 : Int32) (u5 : Int32) (u6 : Int32) (u7 : Int32) (u8 : Int32) (u9 : Int32) (u11 : Int32) (y0 : Int32) (cs9 : CS) (r9 : Int32) (h : c_X4_sift_b79 F rc14 rc35 cs1 u0 u1 u2 u3 u4 u5 u6 u7 u8 u9 u11 y0 = some (cs9, r9)) : kK cs1 ≤ kK cs9 ∧ kM cs1 ≤ kM cs9 := by
  unfold c_X4_sift_b79 at h
  obtain ⟨k9, m9⟩ := hrc35 cs1 u0 u1 u2 u3 u4 u5 u6 u7 u8 u9 y0 (u11 + 1) cs9 r9 h
  exact ⟨by omega, by omega⟩
theorem mo_c_X4_sift_L35 (F : Nat) (rc14 : CS → Nat → Int32 → Int32 → Int32 → Int32 → Int32 → Int32 → Int32 → Int32 → Option (CS × Int32)) (hrc14 : ∀ (cs1 : CS) (u0 : Nat) (u1 : Int32) (u2 : Int32) (u3 : Int32) (u4 : Int32) (u5 : Int32) (u6 : Int32) (u7 : Int32) (u8 : Int32) (cs9 : CS) (r9 : Int32), rc14 cs1 u0 u1 u2 u3 u4 u5 u6 u7 u8 = some (cs9, r9) → kK cs1 ≤ kK cs9 ∧ kM cs1 ≤ kM cs9) : ∀ (lf_35 : Nat) (cs1 : CS) (u0 : Nat) (u1 : Int32) (u2 : Int32) (u3 : Int32) (u4 : Int32) (u5 : Int32) (u6 : Int32) (u7 : Int32) (u8 : Int32) (u9 : Int32) (u10 : Int32) (u11 : Int32) (cs9 : CS) (r9 : Int32), c_X4_sift_L35 F rc14 lf_35 cs1 u0 u1 u2 u3 u4 u5 u6 u7 u8 u9 u10 u11 = some (cs9, r9) → kK cs1 ≤ kK cs9 ∧ kM cs1 ≤ kM cs9 := by
  intro lf_35
  induction lf_35 with
  | zero => intro cs1 u0 u1 u2 u3 u4 u5 u6 u7 u8 u9 u10 u11 cs9 r9 h; cases (show (none : Option (CS × Int32)) = _ from h)
  | succ lf_35 ih_35 =>
    intro cs1 u0 u1 u2 u3 u4 u5 u6 u7 u8 u9 u10 u11 cs9 r9 h
    rw [c_X4_sift_L35] at h
    by_cases c_16 : u4 ≤ u11
    · skip
      replace h := (if_pos c_16).symm.trans h
      obtain ⟨k9, m9⟩ := mo_c_X4_sift_b87 F rc14 hrc14 cs1 u0 u1 u2 u3 u4 u5 u6 u7 u8 u9 u10 cs9 r9 h
      exact ⟨by omega, by omega⟩
    · skip
      replace h := (if_neg c_16).symm.trans h
      by_cases c_17 : u10 = 0
      · skip
        replace h := (if_pos c_17).symm.trans h
        replace h := ob h; obtain ⟨v_18, hv_18, h⟩ := h
        replace h := ob h; obtain ⟨v_19, hv_19, h⟩ := h
        replace h := ob h; obtain ⟨i_20, hi_20, h⟩ := h
        subst hi_20
        replace h := ob h; obtain ⟨i_22, hi_22, h⟩ := h
        subst hi_22
        replace h := ob h; obtain ⟨w_23, hw_23, h⟩ := h
        replace h := ob h; obtain ⟨v_21, hv_21, h⟩ := h
        by_cases c_24 : v_21 = 0
        · skip
          replace h := (if_pos c_24).symm.trans h
          obtain ⟨k9, m9⟩ := mo_c_X4_sift_b79 F rc14 hrc14 (c_X4_sift_L35 F rc14 lf_35) ih_35 cs1 u0 u1 u2 u3 u4 u5 u6 u7 u8 u9 u11 1 cs9 r9 h
          exact ⟨by omega, by omega⟩
        · skip
          replace h := (if_neg c_24).symm.trans h
          obtain ⟨k9, m9⟩ := mo_c_X4_sift_b79 F rc14 hrc14 (c_X4_sift_L35 F rc14 lf_35) ih_35 cs1 u0 u1 u2 u3 u4 u5 u6 u7 u8 u9 u11 0 cs9 r9 h
          exact ⟨by omega, by omega⟩
      · skip
        replace h := (if_neg c_17).symm.trans h
        obtain ⟨k9, m9⟩ := mo_c_X4_sift_b87 F rc14 hrc14 cs1 u0 u1 u2 u3 u4 u5 u6 u7 u8 u9 u10 cs9 r9 h
        exact ⟨by omega, by omega⟩
theorem mo_c_X4_sift_L14 (F : Nat) : ∀ (lf_14 : Nat) (cs1 : CS) (u0 : Nat) (u1 : Int32) (u2 : Int32) (u3 : Int32) (u4 : Int32) (u5 : Int32) (u6 : Int32) (u7 : Int32) (u8 : Int32) (cs9 : CS) (r9 : Int32), c_X4_sift_L14 F lf_14 cs1 u0 u1 u2 u3 u4 u5 u6 u7 u8 = some (cs9, r9) → kK cs1 ≤ kK cs9 ∧ kM cs1 ≤ kM cs9 := by
  intro lf_14
  induction lf_14 with
  | zero => intro cs1 u0 u1 u2 u3 u4 u5 u6 u7 u8 cs9 r9 h; cases (show (none : Option (CS × Int32)) = _ from h)
  | succ lf_14 ih_14 =>
    intro cs1 u0 u1 u2 u3 u4 u5 u6 u7 u8 cs9 r9 h
    rw [c_X4_sift_L14] at h
    by_cases c_16 : u3 ≤ u8
    · skip
      replace h := (if_pos c_16).symm.trans h
      have h9 := (Prod.mk.inj (Option.some.inj h)).1
      have k9 := congrArg kK h9; have m9 := congrArg kM h9; exact ⟨by omega, by omega⟩
    · skip
      replace h := (if_neg c_16).symm.trans h
      obtain ⟨k9, m9⟩ := mo_c_X4_sift_L35 F (c_X4_sift_L14 F lf_14) ih_14 F cs1 u0 u1 u2 u3 u4 u5 u6 u7 u8 (u2 + (u8 * u5)) 0 0 cs9 r9 h
      exact ⟨by omega, by omega⟩
theorem mo_c_X4_sift (F : Nat) (cs : CS) (x0 : Nat) (x1 : Int32) (x2 : Int32) (x3 : Int32) (x4 : Int32) (x5 : Int32) (cs9 : CS) (r9 : Int32) (h : c_X4_sift F cs x0 x1 x2 x3 x4 x5 = some (cs9, r9)) : kK cs ≤ kK cs9 ∧ kM cs ≤ kM cs9 := by
  unfold c_X4_sift at h
  obtain ⟨k9, m9⟩ := mo_c_X4_sift_L14 F F cs x0 x1 x2 x3 x4 x5 (x2 + (x3 * x5)) 0 0 cs9 r9 h
  exact ⟨by omega, by omega⟩
set_option maxHeartbeats 4000000 in
set_option maxRecDepth 100000 in
theorem sa_X4_sift (l : Launch) (dC : Nat → ClassId) (dI : Nat → Nat → Nat) (cB cI cJ cZ cS cO : ClassId) (b : Nat) (K V : Nat → Nat) (fz : Value) (F : Nat) (cs : CS) (x0 : Nat) (x1 : Int32) (x2 : Int32) (x3 : Int32) (x4 : Int32) (x5 : Int32) (cs9 : CS) (r9 : Int32) (hf : c_X4_sift F cs x0 x1 x2 x3 x4 x5 = some (cs9, r9)) : oaI l dC dI cB cI cJ cZ cS cO b K V fz yX4_sift (wsOf yX4_sift cX4_sift 12 (some .int)) (5) [.ref (b + x0), .int x1, .int x2, .int x3, .int x4, .int x5] cs cs9 r9 := by
  obtain ⟨kb9, mb9⟩ := mo_c_X4_sift F cs x0 x1 x2 x3 x4 x5 cs9 r9 hf
  refine ⟨⟨kb9, mb9⟩, ?_⟩
  refine Met.ofW (cc := cX4_sift) (maxL := 12) (ret := (some .int)) (by decide) rfl ?_
  intro p e s m args below meth c s₁ B hml hv
  obtain ⟨rfl, hsz, hP, hK, hD0, hZ⟩ := hv
  have hx := B.exec
  have hb := B.bytes
  have hr := B.returns
  have hts := atoms_spec (ws := (wsOf yX4_sift cX4_sift 12 (some .int))) B.pre
  have hown : s.vm.findClass RX4 = some m.cls := findClass_of_methodNamed B.named
  have hlocks := B.notSynchronized
  have hD := hD0.self (sz := b + kK cs)
  generalize hAe : va_A (cW cB cI cJ cZ cS cO b cs) (b + kK cs) = A at hD hZ ⊢
  have hA : ∀ q : Nat, s.heap.size ≤ q → A q := fun q h => by rw [← hAe]; exact Or.inr (by omega)
  have hS : va_S A s.heap s.heap [] := va_S.rf
  have hG : va_S A s.heap s.heap [] := va_S.rf
  have hgz : s.heap.size = b + kK cs := hsz
  have hl := lv_entry ([.ref (b + x0), .int x1, .int x2, .int x3, .int x4, .int x5]) (n := 12) (Nat.le_of_ble_eq_true rfl)
  rw [lg_entry_eq]
  generalize (lg_sl ([.ref (b + x0), .int x1, .int x2, .int x3, .int x4, .int x5]) ++ List.replicate (12 - (lg_sl ([.ref (b + x0), .int x1, .int x2, .int x3, .int x4, .int x5])).length) Slot.unset).toArray = ls at hl ⊢
  have hl : lv_has ls 12 [(0, .ref (b + x0)), (1, .int x1), (2, .int x2), (3, .int x3), (4, .int x4), (5, .int x5)] := hl
  have L_14 : ∀ (lf_14 : Nat), ∀ (cs1 : CS) (u0 : Nat) (u1 : Int32) (u2 : Int32) (u3 : Int32) (u4 : Int32) (u5 : Int32) (u6 : Int32) (u7 : Int32) (u8 : Int32), c_X4_sift_L14 F lf_14 cs1 u0 u1 u2 u3 u4 u5 u6 u7 u8 = some (cs9, r9) → kK cs ≤ kK cs1 → kM cs ≤ kM cs1 → ∀ (Gh H : Heap) (locs : List Loc) (ls : Array Slot), va_P (dC, dI) vwCl (cW cB cI cJ cZ cS cO b cs1) H → va_D A (cW cB cI cJ cZ cS cO b cs1) → va_S A s.heap Gh [] → Gh.size = b + kK cs1 → va_S A Gh H locs → lv_has ls 12 [(0, .ref (b + u0)), (1, .int u1), (2, .int u2), (3, .int u3), (4, .int u4), (5, .int u5), (6, .int u6), (7, .int u7), (8, .int u8)] → W p l e (headSpec (wsOf yX4_sift cX4_sift 12 (some .int)) ({ frames := 5, cells := kK cs9 - kK cs, slots := kM cs9 - kM cs, locals := 60 * (5) } : Room)).room s m ([.ref (b + x0), .int x1, .int x2, .int x3, .int x4, .int x5] : List Value).toArray below meth c H locs (kK cs1 - kK cs) (kM cs1 - kM cs) (MQ below (va_Qi (fun (x : Int32) (_ : Unit) => x = r9) (fun _ t_ => va_P (dC, dI) vwCl (cW cB cI cJ cZ cS cO b cs9) t_.heap ∧ va_D A (cW cB cI cJ cZ cS cO b cs9) ∧ b + kK cs9 ≤ t_.heap.size) A) ([.ref (b + x0), .int x1, .int x2, .int x3, .int x4, .int x5] : List Value).toArray s (kK cs9 - kK cs) (kM cs9 - kM cs) A) (F0 m 14 ls []) := by
    intro lf_14
    induction lf_14 with
    | zero => intro cs1 u0 u1 u2 u3 u4 u5 u6 u7 u8 h; cases (show (none : Option (CS × Int32)) = _ from h)
    | succ lf_14 ih_14 =>
      have B_114 : ∀ (cs1 : CS) (u0 : Nat) (u1 : Int32) (u2 : Int32) (u3 : Int32) (u4 : Int32) (u5 : Int32) (u6 : Int32) (u7 : Int32) (u8 : Int32), c_X4_sift_b114 F (c_X4_sift_L14 F lf_14) cs1 u0 u1 u2 u3 u4 u5 u6 u7 u8 = some (cs9, r9) → kK cs ≤ kK cs1 → kM cs ≤ kM cs1 → ∀ (Gh H : Heap) (locs : List Loc) (ls : Array Slot), va_P (dC, dI) vwCl (cW cB cI cJ cZ cS cO b cs1) H → va_D A (cW cB cI cJ cZ cS cO b cs1) → va_S A s.heap Gh [] → Gh.size = b + kK cs1 → va_S A Gh H locs → lv_has ls 12 [(0, .ref (b + u0)), (1, .int u1), (2, .int u2), (3, .int u3), (4, .int u4), (5, .int u5), (6, .int u6), (7, .int u7), (8, .int u8)] → W p l e (headSpec (wsOf yX4_sift cX4_sift 12 (some .int)) ({ frames := 5, cells := kK cs9 - kK cs, slots := kM cs9 - kM cs, locals := 60 * (5) } : Room)).room s m ([.ref (b + x0), .int x1, .int x2, .int x3, .int x4, .int x5] : List Value).toArray below meth c H locs (kK cs1 - kK cs) (kM cs1 - kM cs) (MQ below (va_Qi (fun (x : Int32) (_ : Unit) => x = r9) (fun _ t_ => va_P (dC, dI) vwCl (cW cB cI cJ cZ cS cO b cs9) t_.heap ∧ va_D A (cW cB cI cJ cZ cS cO b cs9) ∧ b + kK cs9 ≤ t_.heap.size) A) ([.ref (b + x0), .int x1, .int x2, .int x3, .int x4, .int x5] : List Value).toArray s (kK cs9 - kK cs) (kM cs9 - kM cs) A) (F0 m 114 ls []) := by
        intro cs1 u0 u1 u2 u3 u4 u5 u6 u7 u8 h hmk hmm Gh H locs ls hP hD hG hgz hS hl
        obtain ⟨kb9, mb9⟩ := mo_c_X4_sift_b114 F (c_X4_sift_L14 F lf_14) (mo_c_X4_sift_L14 F lf_14) cs1 u0 u1 u2 u3 u4 u5 u6 u7 u8 cs9 r9 h
        unfold c_X4_sift_b114 at h
        refine lv_iinc (v := u8 + 1) (lv' := [(8, .int (u8 + 1)), (0, .ref (b + u0)), (1, .int u1), (2, .int u2), (3, .int u3), (4, .int u4), (5, .int u5), (6, .int u6), (7, .int u7)]) hx hb dX4_sift_114 hl (k := 8) rfl rfl (by decide) rfl (fun ls hl => ?_)
        refine lv_goto (tgt := 14) hx hb dX4_sift_117 (by decide) ?_
        refine W_cnt (c2 := kK cs1 - kK cs) (n2 := kM cs1 - kM cs) (by omega) (by omega) ?_
        exact ih_14 cs1 u0 u1 u2 u3 u4 u5 u6 u7 (u8 + 1) h (by omega) (by omega) _ _ _ _ hP hD hG (by omega) hS (lv_sub hl [1, 2, 3, 4, 5, 6, 7, 8, 0] rfl)
      have B_111 : ∀ (cs1 : CS) (u0 : Nat) (u1 : Int32) (u2 : Int32) (u3 : Int32) (u4 : Int32) (u5 : Int32) (u6 : Int32) (u7 : Int32) (u8 : Int32), c_X4_sift_b111 F (c_X4_sift_L14 F lf_14) cs1 u0 u1 u2 u3 u4 u5 u6 u7 u8 = some (cs9, r9) → kK cs ≤ kK cs1 → kM cs ≤ kM cs1 → ∀ (Gh H : Heap) (locs : List Loc) (ls : Array Slot), va_P (dC, dI) vwCl (cW cB cI cJ cZ cS cO b cs1) H → va_D A (cW cB cI cJ cZ cS cO b cs1) → va_S A s.heap Gh [] → Gh.size = b + kK cs1 → va_S A Gh H locs → lv_has ls 12 [(0, .ref (b + u0)), (1, .int u1), (2, .int u2), (3, .int u3), (4, .int u4), (5, .int u5), (6, .int u6), (7, .int u7), (8, .int u8)] → W p l e (headSpec (wsOf yX4_sift cX4_sift 12 (some .int)) ({ frames := 5, cells := kK cs9 - kK cs, slots := kM cs9 - kM cs, locals := 60 * (5) } : Room)).room s m ([.ref (b + x0), .int x1, .int x2, .int x3, .int x4, .int x5] : List Value).toArray below meth c H locs (kK cs1 - kK cs) (kM cs1 - kM cs) (MQ below (va_Qi (fun (x : Int32) (_ : Unit) => x = r9) (fun _ t_ => va_P (dC, dI) vwCl (cW cB cI cJ cZ cS cO b cs9) t_.heap ∧ va_D A (cW cB cI cJ cZ cS cO b cs9) ∧ b + kK cs9 ≤ t_.heap.size) A) ([.ref (b + x0), .int x1, .int x2, .int x3, .int x4, .int x5] : List Value).toArray s (kK cs9 - kK cs) (kM cs9 - kM cs) A) (F0 m 111 ls []) := by
        intro cs1 u0 u1 u2 u3 u4 u5 u6 u7 u8 h hmk hmm Gh H locs ls hP hD hG hgz hS hl
        obtain ⟨kb9, mb9⟩ := mo_c_X4_sift_b111 F (c_X4_sift_L14 F lf_14) (mo_c_X4_sift_L14 F lf_14) cs1 u0 u1 u2 u3 u4 u5 u6 u7 u8 cs9 r9 h
        unfold c_X4_sift_b111 at h
        refine lv_iinc (v := u7 + 1) (lv' := [(7, .int (u7 + 1)), (0, .ref (b + u0)), (1, .int u1), (2, .int u2), (3, .int u3), (4, .int u4), (5, .int u5), (6, .int u6), (8, .int u8)]) hx hb dX4_sift_111 hl (k := 7) rfl rfl (by decide) rfl (fun ls hl => ?_)
        refine W_cnt (c2 := kK cs1 - kK cs) (n2 := kM cs1 - kM cs) (by omega) (by omega) ?_
        exact B_114 cs1 u0 u1 u2 u3 u4 u5 u6 (u7 + 1) u8 h (by omega) (by omega) _ _ _ _ hP hD hG (by omega) hS (lv_sub hl [1, 2, 3, 4, 5, 6, 7, 0, 8] rfl)
      have B_87 : ∀ (cs1 : CS) (u0 : Nat) (u1 : Int32) (u2 : Int32) (u3 : Int32) (u4 : Int32) (u5 : Int32) (u6 : Int32) (u7 : Int32) (u8 : Int32) (u9 : Int32) (u10 : Int32), c_X4_sift_b87 F (c_X4_sift_L14 F lf_14) cs1 u0 u1 u2 u3 u4 u5 u6 u7 u8 u9 u10 = some (cs9, r9) → kK cs ≤ kK cs1 → kM cs ≤ kM cs1 → ∀ (Gh H : Heap) (locs : List Loc) (ls : Array Slot), va_P (dC, dI) vwCl (cW cB cI cJ cZ cS cO b cs1) H → va_D A (cW cB cI cJ cZ cS cO b cs1) → va_S A s.heap Gh [] → Gh.size = b + kK cs1 → va_S A Gh H locs → lv_has ls 12 [(0, .ref (b + u0)), (1, .int u1), (2, .int u2), (3, .int u3), (4, .int u4), (5, .int u5), (6, .int u6), (7, .int u7), (8, .int u8), (9, .int u9), (10, .int u10)] → W p l e (headSpec (wsOf yX4_sift cX4_sift 12 (some .int)) ({ frames := 5, cells := kK cs9 - kK cs, slots := kM cs9 - kM cs, locals := 60 * (5) } : Room)).room s m ([.ref (b + x0), .int x1, .int x2, .int x3, .int x4, .int x5] : List Value).toArray below meth c H locs (kK cs1 - kK cs) (kM cs1 - kM cs) (MQ below (va_Qi (fun (x : Int32) (_ : Unit) => x = r9) (fun _ t_ => va_P (dC, dI) vwCl (cW cB cI cJ cZ cS cO b cs9) t_.heap ∧ va_D A (cW cB cI cJ cZ cS cO b cs9) ∧ b + kK cs9 ≤ t_.heap.size) A) ([.ref (b + x0), .int x1, .int x2, .int x3, .int x4, .int x5] : List Value).toArray s (kK cs9 - kK cs) (kM cs9 - kM cs) A) (F0 m 87 ls []) := by
        intro cs1 u0 u1 u2 u3 u4 u5 u6 u7 u8 u9 u10 h hmk hmm Gh H locs ls hP hD hG hgz hS hl
        obtain ⟨kb9, mb9⟩ := mo_c_X4_sift_b87 F (c_X4_sift_L14 F lf_14) (mo_c_X4_sift_L14 F lf_14) cs1 u0 u1 u2 u3 u4 u5 u6 u7 u8 u9 u10 cs9 r9 h
        unfold c_X4_sift_b87 at h
        refine lv_iload hx hb dX4_sift_87 (lv_at hl 10 rfl) ?_
        refine lv_iload_n hx hb dX4_sift_89 rfl (lv_at hl 1 rfl) ?_
        refine lv_icmp_ne (tgt := 114) hx hb dX4_sift_90 (by decide) (fun c_1 => ?_) (fun c_1 => ?_)
        · skip
          replace h := (if_neg c_1).symm.trans h
          refine W_cnt (c2 := kK cs1 - kK cs) (n2 := kM cs1 - kM cs) (by omega) (by omega) ?_
          exact B_114 cs1 u0 u1 u2 u3 u4 u5 u6 u7 u8 h (by omega) (by omega) _ _ _ _ hP hD hG (by omega) hS (lv_sub hl [0, 1, 2, 3, 4, 5, 6, 7, 8] rfl)
        · skip
          replace h := (if_pos c_1).symm.trans h
          refine lv_aload_n hx hb dX4_sift_93 rfl (lv_at hl 0 rfl) ?_
          replace h := ob h; obtain ⟨v_2, hv_2, h⟩ := h
          refine fg_X4_19 hx hb hts hown hK hP hv_2 dX4_sift_94 ?_
          refine lv_iload hx hb dX4_sift_97 (lv_at hl 9 rfl) ?_
          refine lv_iload_n hx hb dX4_sift_99 rfl (lv_at hl 2 rfl) ?_
          refine lv_iload hx hb dX4_sift_100 (lv_at hl 7 rfl) ?_
          refine lv_iload hx hb dX4_sift_102 (lv_at hl 5 rfl) ?_
          refine lv_imul hx hb dX4_sift_104 ?_
          refine lv_iadd hx hb dX4_sift_105 ?_
          refine lv_iload hx hb dX4_sift_106 (lv_at hl 5 rfl) ?_
          replace h := ob h; obtain ⟨i_4, hi_4, h⟩ := h
          subst hi_4
          replace h := ob h; obtain ⟨w_5, hw_5, h⟩ := h
          replace h := ob h; obtain ⟨cs_3, hv_3, h⟩ := h
          obtain ⟨qk_3, qm_3⟩ := mo_c_X8_copy F cs1 i_4 u9 (u2 + (u7 * u5)) u5 cs_3 hv_3
          obtain ⟨k9_3, m9_3⟩ := mo_c_X4_sift_b111 F (c_X4_sift_L14 F lf_14) (mo_c_X4_sift_L14 F lf_14) cs_3 u0 u1 u2 u3 u4 u5 u6 u7 u8 cs9 r9 h
          refine cavV (As := [.int u9, .int (u2 + (u7 * u5)), .int u5]) hx hb hml hts hown hK hP hD hS hG hA (by omega) (by omega) hZ (X := 9) (by decide) rfl (ckE_some hw_5) (sa_X8_copy l dC dI cB cI cJ cZ cS cO b K V fz F cs1 i_4 u9 (u2 + (u7 * u5)) u5 cs_3 hv_3) (cw_X4_X8_copy hts (fr := 4) (Nat.le_of_ble_eq_true rfl) (Nat.le_of_ble_eq_true rfl)) rfl hl.1 (Nat.le_of_ble_eq_true rfl) ⟨by show kK cs1 - kK cs + (kK cs_3 - kK cs1) ≤ kK cs9 - kK cs; omega, by show kM cs1 - kM cs + (kM cs_3 - kM cs1) ≤ kM cs9 - kM cs; omega⟩ dX4_sift_108 (fun H locs hP hD hG hgz hS => ?_)
          refine W_cnt (c2 := kK cs_3 - kK cs) (n2 := kM cs_3 - kM cs) (by omega) (by omega) ?_
          exact B_111 cs_3 u0 u1 u2 u3 u4 u5 u6 u7 u8 h (by omega) (by omega) _ _ _ _ hP hD hG (by omega) hS (lv_sub hl [0, 1, 2, 3, 4, 5, 6, 7, 8] rfl)
      have L_35 : ∀ (lf_35 : Nat), ∀ (cs1 : CS) (u0 : Nat) (u1 : Int32) (u2 : Int32) (u3 : Int32) (u4 : Int32) (u5 : Int32) (u6 : Int32) (u7 : Int32) (u8 : Int32) (u9 : Int32) (u10 : Int32) (u11 : Int32), c_X4_sift_L35 F (c_X4_sift_L14 F lf_14) lf_35 cs1 u0 u1 u2 u3 u4 u5 u6 u7 u8 u9 u10 u11 = some (cs9, r9) → kK cs ≤ kK cs1 → kM cs ≤ kM cs1 → ∀ (Gh H : Heap) (locs : List Loc) (ls : Array Slot), va_P (dC, dI) vwCl (cW cB cI cJ cZ cS cO b cs1) H → va_D A (cW cB cI cJ cZ cS cO b cs1) → va_S A s.heap Gh [] → Gh.size = b + kK cs1 → va_S A Gh H locs → lv_has ls 12 [(0, .ref (b + u0)), (1, .int u1), (2, .int u2), (3, .int u3), (4, .int u4), (5, .int u5), (6, .int u6), (7, .int u7), (8, .int u8), (9, .int u9), (10, .int u10), (11, .int u11)] → W p l e (headSpec (wsOf yX4_sift cX4_sift 12 (some .int)) ({ frames := 5, cells := kK cs9 - kK cs, slots := kM cs9 - kM cs, locals := 60 * (5) } : Room)).room s m ([.ref (b + x0), .int x1, .int x2, .int x3, .int x4, .int x5] : List Value).toArray below meth c H locs (kK cs1 - kK cs) (kM cs1 - kM cs) (MQ below (va_Qi (fun (x : Int32) (_ : Unit) => x = r9) (fun _ t_ => va_P (dC, dI) vwCl (cW cB cI cJ cZ cS cO b cs9) t_.heap ∧ va_D A (cW cB cI cJ cZ cS cO b cs9) ∧ b + kK cs9 ≤ t_.heap.size) A) ([.ref (b + x0), .int x1, .int x2, .int x3, .int x4, .int x5] : List Value).toArray s (kK cs9 - kK cs) (kM cs9 - kM cs) A) (F0 m 35 ls []) := by
        intro lf_35
        induction lf_35 with
        | zero => intro cs1 u0 u1 u2 u3 u4 u5 u6 u7 u8 u9 u10 u11 h; cases (show (none : Option (CS × Int32)) = _ from h)
        | succ lf_35 ih_35 =>
          have B_79 : ∀ (cs1 : CS) (u0 : Nat) (u1 : Int32) (u2 : Int32) (u3 : Int32) (u4 : Int32) (u5 : Int32) (u6 : Int32) (u7 : Int32) (u8 : Int32) (u9 : Int32) (u11 : Int32) (y0 : Int32), c_X4_sift_b79 F (c_X4_sift_L14 F lf_14) (c_X4_sift_L35 F (c_X4_sift_L14 F lf_14) lf_35) cs1 u0 u1 u2 u3 u4 u5 u6 u7 u8 u9 u11 y0 = some (cs9, r9) → kK cs ≤ kK cs1 → kM cs ≤ kM cs1 → ∀ (Gh H : Heap) (locs : List Loc) (ls : Array Slot), va_P (dC, dI) vwCl (cW cB cI cJ cZ cS cO b cs1) H → va_D A (cW cB cI cJ cZ cS cO b cs1) → va_S A s.heap Gh [] → Gh.size = b + kK cs1 → va_S A Gh H locs → lv_has ls 12 [(0, .ref (b + u0)), (1, .int u1), (2, .int u2), (3, .int u3), (4, .int u4), (5, .int u5), (6, .int u6), (7, .int u7), (8, .int u8), (9, .int u9), (11, .int u11)] → W p l e (headSpec (wsOf yX4_sift cX4_sift 12 (some .int)) ({ frames := 5, cells := kK cs9 - kK cs, slots := kM cs9 - kM cs, locals := 60 * (5) } : Room)).room s m ([.ref (b + x0), .int x1, .int x2, .int x3, .int x4, .int x5] : List Value).toArray below meth c H locs (kK cs1 - kK cs) (kM cs1 - kM cs) (MQ below (va_Qi (fun (x : Int32) (_ : Unit) => x = r9) (fun _ t_ => va_P (dC, dI) vwCl (cW cB cI cJ cZ cS cO b cs9) t_.heap ∧ va_D A (cW cB cI cJ cZ cS cO b cs9) ∧ b + kK cs9 ≤ t_.heap.size) A) ([.ref (b + x0), .int x1, .int x2, .int x3, .int x4, .int x5] : List Value).toArray s (kK cs9 - kK cs) (kM cs9 - kM cs) A) (F0 m 79 ls [.int y0]) := by
            intro cs1 u0 u1 u2 u3 u4 u5 u6 u7 u8 u9 u11 y0 h hmk hmm Gh H locs ls hP hD hG hgz hS hl
            obtain ⟨kb9, mb9⟩ := mo_c_X4_sift_b79 F (c_X4_sift_L14 F lf_14) (mo_c_X4_sift_L14 F lf_14) (c_X4_sift_L35 F (c_X4_sift_L14 F lf_14) lf_35) (mo_c_X4_sift_L35 F (c_X4_sift_L14 F lf_14) (mo_c_X4_sift_L14 F lf_14) lf_35) cs1 u0 u1 u2 u3 u4 u5 u6 u7 u8 u9 u11 y0 cs9 r9 h
            unfold c_X4_sift_b79 at h
            refine lv_istore (lv' := [(10, .int y0), (0, .ref (b + u0)), (1, .int u1), (2, .int u2), (3, .int u3), (4, .int u4), (5, .int u5), (6, .int u6), (7, .int u7), (8, .int u8), (9, .int u9), (11, .int u11)]) hx hb dX4_sift_79 hl (by decide) rfl (fun ls hl => ?_)
            refine lv_iinc (v := u11 + 1) (lv' := [(11, .int (u11 + 1)), (10, .int y0), (0, .ref (b + u0)), (1, .int u1), (2, .int u2), (3, .int u3), (4, .int u4), (5, .int u5), (6, .int u6), (7, .int u7), (8, .int u8), (9, .int u9)]) hx hb dX4_sift_81 hl (k := 11) rfl rfl (by decide) rfl (fun ls hl => ?_)
            refine lv_goto (tgt := 35) hx hb dX4_sift_84 (by decide) ?_
            refine W_cnt (c2 := kK cs1 - kK cs) (n2 := kM cs1 - kM cs) (by omega) (by omega) ?_
            exact ih_35 cs1 u0 u1 u2 u3 u4 u5 u6 u7 u8 u9 y0 (u11 + 1) h (by omega) (by omega) _ _ _ _ hP hD hG (by omega) hS (lv_sub hl [2, 3, 4, 5, 6, 7, 8, 9, 10, 11, 1, 0] rfl)
          intro cs1 u0 u1 u2 u3 u4 u5 u6 u7 u8 u9 u10 u11 h hmk hmm Gh H locs ls hP hD hG hgz hS hl
          obtain ⟨kb9, mb9⟩ := mo_c_X4_sift_L35 F (c_X4_sift_L14 F lf_14) (mo_c_X4_sift_L14 F lf_14) (lf_35 + 1) cs1 u0 u1 u2 u3 u4 u5 u6 u7 u8 u9 u10 u11 cs9 r9 h
          rw [c_X4_sift_L35] at h
          refine lv_iload hx hb dX4_sift_35 (lv_at hl 11 rfl) ?_
          refine lv_iload hx hb dX4_sift_37 (lv_at hl 4 rfl) ?_
          refine lv_icmp_ge (tgt := 87) hx hb dX4_sift_39 (by decide) (fun c_6 => ?_) (fun c_6 => ?_)
          · skip
            replace h := (if_pos c_6).symm.trans h
            refine W_cnt (c2 := kK cs1 - kK cs) (n2 := kM cs1 - kM cs) (by omega) (by omega) ?_
            exact B_87 cs1 u0 u1 u2 u3 u4 u5 u6 u7 u8 u9 u10 h (by omega) (by omega) _ _ _ _ hP hD hG (by omega) hS (lv_sub hl [0, 1, 2, 3, 4, 5, 6, 7, 8, 9, 10] rfl)
          · skip
            replace h := (if_neg c_6).symm.trans h
            refine lv_iload hx hb dX4_sift_42 (lv_at hl 10 rfl) ?_
            refine lv_if_ne (tgt := 87) hx hb dX4_sift_44 (by decide) (fun c_7 => ?_) (fun c_7 => ?_)
            · skip
              replace h := (if_neg c_7).symm.trans h
              refine W_cnt (c2 := kK cs1 - kK cs) (n2 := kM cs1 - kM cs) (by omega) (by omega) ?_
              exact B_87 cs1 u0 u1 u2 u3 u4 u5 u6 u7 u8 u9 u10 h (by omega) (by omega) _ _ _ _ hP hD hG (by omega) hS (lv_sub hl [0, 1, 2, 3, 4, 5, 6, 7, 8, 9, 10] rfl)
            · skip
              replace h := (if_pos c_7).symm.trans h
              refine lv_aload_n hx hb dX4_sift_47 rfl (lv_at hl 0 rfl) ?_
              replace h := ob h; obtain ⟨v_8, hv_8, h⟩ := h
              refine fg_X4_19 hx hb hts hown hK hP hv_8 dX4_sift_48 ?_
              refine lv_iload hx hb dX4_sift_51 (lv_at hl 9 rfl) ?_
              refine lv_aload_n hx hb dX4_sift_53 rfl (lv_at hl 0 rfl) ?_
              replace h := ob h; obtain ⟨v_9, hv_9, h⟩ := h
              refine fg_X4_19 hx hb hts hown hK hP hv_9 dX4_sift_54 ?_
              refine lv_iload hx hb dX4_sift_57 (lv_at hl 6 rfl) ?_
              refine lv_iload hx hb dX4_sift_59 (lv_at hl 11 rfl) ?_
              refine lv_iload hx hb dX4_sift_61 (lv_at hl 5 rfl) ?_
              refine lv_imul hx hb dX4_sift_63 ?_
              refine lv_iadd hx hb dX4_sift_64 ?_
              refine lv_iload hx hb dX4_sift_65 (lv_at hl 5 rfl) ?_
              refine lv_iconst (v := 0) hx hb dX4_sift_67 (by decide) ?_
              replace h := ob h; obtain ⟨i_10, hi_10, h⟩ := h
              subst hi_10
              replace h := ob h; obtain ⟨i_12, hi_12, h⟩ := h
              subst hi_12
              replace h := ob h; obtain ⟨w_13, hw_13, h⟩ := h
              replace h := ob h; obtain ⟨v_11, hv_11, h⟩ := h
              refine cbvI (As := [.int u9, .ref (b + i_10), .int (u6 + (u11 * u5)), .int u5, .int 0]) hx hb hml hts hown hK hP hD hS hG hA (by omega) (by omega) hZ (X := 9) (by decide) rfl (ckE_some hw_13) (sc_X8_compareRows l dC dI cB cI cJ cZ cS cO b K V fz F cs1 i_12 u9 i_10 (u6 + (u11 * u5)) u5 0 v_11 hv_11) (cw_X4_X8_compareRows hts (fr := 1) (Nat.le_of_ble_eq_true rfl) (Nat.le_of_ble_eq_true rfl)) rfl hl.1 (Nat.le_of_ble_eq_true rfl) ⟨by show kK cs1 - kK cs ≤ kK cs9 - kK cs; omega, by show kM cs1 - kM cs ≤ kM cs9 - kM cs; omega⟩ dX4_sift_68 (fun H locs hP hD hG hgz hS => ?_)
              refine lv_if_ne (tgt := 78) hx hb dX4_sift_71 (by decide) (fun c_14 => ?_) (fun c_14 => ?_)
              · skip
                replace h := (if_neg c_14).symm.trans h
                refine lv_iconst (v := 0) hx hb dX4_sift_78 (by decide) ?_
                refine W_cnt (c2 := kK cs1 - kK cs) (n2 := kM cs1 - kM cs) (by omega) (by omega) ?_
                exact B_79 cs1 u0 u1 u2 u3 u4 u5 u6 u7 u8 u9 u11 0 h (by omega) (by omega) _ _ _ _ hP hD hG (by omega) hS (lv_sub hl [0, 1, 2, 3, 4, 5, 6, 7, 8, 9, 11] rfl)
              · skip
                replace h := (if_pos c_14).symm.trans h
                refine lv_iconst (v := 1) hx hb dX4_sift_74 (by decide) ?_
                refine lv_goto (tgt := 79) hx hb dX4_sift_75 (by decide) ?_
                refine W_cnt (c2 := kK cs1 - kK cs) (n2 := kM cs1 - kM cs) (by omega) (by omega) ?_
                exact B_79 cs1 u0 u1 u2 u3 u4 u5 u6 u7 u8 u9 u11 1 h (by omega) (by omega) _ _ _ _ hP hD hG (by omega) hS (lv_sub hl [0, 1, 2, 3, 4, 5, 6, 7, 8, 9, 11] rfl)
      intro cs1 u0 u1 u2 u3 u4 u5 u6 u7 u8 h hmk hmm Gh H locs ls hP hD hG hgz hS hl
      obtain ⟨kb9, mb9⟩ := mo_c_X4_sift_L14 F (lf_14 + 1) cs1 u0 u1 u2 u3 u4 u5 u6 u7 u8 cs9 r9 h
      rw [c_X4_sift_L14] at h
      refine lv_iload hx hb dX4_sift_14 (lv_at hl 8 rfl) ?_
      refine lv_iload_n hx hb dX4_sift_16 rfl (lv_at hl 3 rfl) ?_
      refine lv_icmp_ge (tgt := 120) hx hb dX4_sift_17 (by decide) (fun c_15 => ?_) (fun c_15 => ?_)
      · skip
        replace h := (if_pos c_15).symm.trans h
        refine lv_iload hx hb dX4_sift_120 (lv_at hl 7 rfl) ?_
        obtain ⟨e1, e2⟩ := Prod.mk.inj (Option.some.inj h)
        rw [e1] at hP hD
        have e3 := congrArg kK e1
        have e4 := congrArg kM e1
        refine W_cnt (c2 := kK cs9 - kK cs) (n2 := kM cs9 - kM cs) (by omega) (by omega) ?_
        exact W.iret (v := u7) hx hb hr (fun t_ ht hW => ⟨⟨u7, (), rfl, e2, by rw [ht]; exact hP, hD, by rw [ht]; have := hS.1; omega⟩, (hG.comp hS).F ht⟩) (hG.comp hS).2.2 dX4_sift_122
      · skip
        replace h := (if_neg c_15).symm.trans h
        refine lv_iload_n hx hb dX4_sift_20 rfl (lv_at hl 2 rfl) ?_
        refine lv_iload hx hb dX4_sift_21 (lv_at hl 8 rfl) ?_
        refine lv_iload hx hb dX4_sift_23 (lv_at hl 5 rfl) ?_
        refine lv_imul hx hb dX4_sift_25 ?_
        refine lv_iadd hx hb dX4_sift_26 ?_
        refine lv_istore (lv' := [(9, .int (u2 + (u8 * u5))), (0, .ref (b + u0)), (1, .int u1), (2, .int u2), (3, .int u3), (4, .int u4), (5, .int u5), (6, .int u6), (7, .int u7), (8, .int u8)]) hx hb dX4_sift_27 hl (by decide) rfl (fun ls hl => ?_)
        refine lv_iconst (v := 0) hx hb dX4_sift_29 (by decide) ?_
        refine lv_istore (lv' := [(10, .int 0), (9, .int (u2 + (u8 * u5))), (0, .ref (b + u0)), (1, .int u1), (2, .int u2), (3, .int u3), (4, .int u4), (5, .int u5), (6, .int u6), (7, .int u7), (8, .int u8)]) hx hb dX4_sift_30 hl (by decide) rfl (fun ls hl => ?_)
        refine lv_iconst (v := 0) hx hb dX4_sift_32 (by decide) ?_
        refine lv_istore (lv' := [(11, .int 0), (10, .int 0), (9, .int (u2 + (u8 * u5))), (0, .ref (b + u0)), (1, .int u1), (2, .int u2), (3, .int u3), (4, .int u4), (5, .int u5), (6, .int u6), (7, .int u7), (8, .int u8)]) hx hb dX4_sift_33 hl (by decide) rfl (fun ls hl => ?_)
        refine W_cnt (c2 := kK cs1 - kK cs) (n2 := kM cs1 - kM cs) (by omega) (by omega) ?_
        exact L_35 F cs1 u0 u1 u2 u3 u4 u5 u6 u7 u8 (u2 + (u8 * u5)) 0 0 h (by omega) (by omega) _ _ _ _ hP hD hG (by omega) hS (lv_sub hl [3, 4, 5, 6, 7, 8, 9, 10, 11, 2, 1, 0] rfl)
  have h := hf
  unfold c_X4_sift at h
  refine W_cnt (c2 := kK cs - kK cs) (n2 := kM cs - kM cs) (by omega) (by omega) ?_
  refine lv_iload_n hx hb dX4_sift_0 rfl (lv_at hl 2 rfl) ?_
  refine lv_iload_n hx hb dX4_sift_1 rfl (lv_at hl 3 rfl) ?_
  refine lv_iload hx hb dX4_sift_2 (lv_at hl 5 rfl) ?_
  refine lv_imul hx hb dX4_sift_4 ?_
  refine lv_iadd hx hb dX4_sift_5 ?_
  refine lv_istore (lv' := [(6, .int (x2 + (x3 * x5))), (0, .ref (b + x0)), (1, .int x1), (2, .int x2), (3, .int x3), (4, .int x4), (5, .int x5)]) hx hb dX4_sift_6 hl (by decide) rfl (fun ls hl => ?_)
  refine lv_iconst (v := 0) hx hb dX4_sift_8 (by decide) ?_
  refine lv_istore (lv' := [(7, .int 0), (6, .int (x2 + (x3 * x5))), (0, .ref (b + x0)), (1, .int x1), (2, .int x2), (3, .int x3), (4, .int x4), (5, .int x5)]) hx hb dX4_sift_9 hl (by decide) rfl (fun ls hl => ?_)
  refine lv_iconst (v := 0) hx hb dX4_sift_11 (by decide) ?_
  refine lv_istore (lv' := [(8, .int 0), (7, .int 0), (6, .int (x2 + (x3 * x5))), (0, .ref (b + x0)), (1, .int x1), (2, .int x2), (3, .int x3), (4, .int x4), (5, .int x5)]) hx hb dX4_sift_12 hl (by decide) rfl (fun ls hl => ?_)
  refine W_cnt (c2 := kK cs - kK cs) (n2 := kM cs - kM cs) (by omega) (by omega) ?_
  exact L_14 F cs x0 x1 x2 x3 x4 x5 (x2 + (x3 * x5)) 0 0 h (by omega) (by omega) _ _ _ _ hP hD hG (by omega) hS (lv_sub hl [3, 4, 5, 6, 7, 8, 2, 1, 0] rfl)
theorem dX4_combine_0 : decode cX4_combine 0 = .ok (.iload_n 3, 1) := by decide +kernel
theorem dX4_combine_1 : decode cX4_combine 1 = .ok (.iload 4, 2) := by decide +kernel
theorem dX4_combine_3 : decode cX4_combine 3 = .ok (.iadd, 1) := by decide +kernel
theorem dX4_combine_4 : decode cX4_combine 4 = .ok (.istore 6, 2) := by decide +kernel
theorem dX4_combine_6 : decode cX4_combine 6 = .ok (.iload_n 1, 1) := by decide +kernel
theorem dX4_combine_7 : decode cX4_combine 7 = .ok (.bipush 11, 2) := by decide +kernel
theorem dX4_combine_9 : decode cX4_combine 9 = .ok (.if_icmp .ne 6, 3) := by decide +kernel
theorem dX4_combine_12 : decode cX4_combine 12 = .ok (.iload 6, 2) := by decide +kernel
theorem dX4_combine_14 : decode cX4_combine 14 = .ok (.ireturn, 1) := by decide +kernel
theorem dX4_combine_15 : decode cX4_combine 15 = .ok (.iload_n 1, 1) := by decide +kernel
theorem dX4_combine_16 : decode cX4_combine 16 = .ok (.bipush 10, 2) := by decide +kernel
theorem dX4_combine_18 : decode cX4_combine 18 = .ok (.if_icmp .eq 26, 3) := by decide +kernel
theorem dX4_combine_21 : decode cX4_combine 21 = .ok (.aload_n 0, 1) := by decide +kernel
theorem dX4_combine_22 : decode cX4_combine 22 = .ok (.iload_n 1, 1) := by decide +kernel
theorem dX4_combine_23 : decode cX4_combine 23 = .ok (.bipush 13, 2) := by decide +kernel
theorem dX4_combine_25 : decode cX4_combine 25 = .ok (.if_icmp .ne 7, 3) := by decide +kernel
theorem dX4_combine_28 : decode cX4_combine 28 = .ok (.iconst 1, 1) := by decide +kernel
theorem dX4_combine_29 : decode cX4_combine 29 = .ok (.goto 4, 3) := by decide +kernel
theorem dX4_combine_32 : decode cX4_combine 32 = .ok (.iconst 0, 1) := by decide +kernel
theorem dX4_combine_33 : decode cX4_combine 33 = .ok (.iload_n 2, 1) := by decide +kernel
theorem dX4_combine_34 : decode cX4_combine 34 = .ok (.iload_n 3, 1) := by decide +kernel
theorem dX4_combine_35 : decode cX4_combine 35 = .ok (.iload 4, 2) := by decide +kernel
theorem dX4_combine_37 : decode cX4_combine 37 = .ok (.iload 5, 2) := by decide +kernel
theorem dX4_combine_39 : decode cX4_combine 39 = .ok (.invokevirtual 71, 3) := by decide +kernel
theorem dX4_combine_42 : decode cX4_combine 42 = .ok (.istore 6, 2) := by decide +kernel
theorem dX4_combine_44 : decode cX4_combine 44 = .ok (.aload_n 0, 1) := by decide +kernel
theorem dX4_combine_45 : decode cX4_combine 45 = .ok (.getfield 19, 3) := by decide +kernel
theorem dX4_combine_48 : decode cX4_combine 48 = .ok (.iload_n 2, 1) := by decide +kernel
theorem dX4_combine_49 : decode cX4_combine 49 = .ok (.iload 6, 2) := by decide +kernel
theorem dX4_combine_51 : decode cX4_combine 51 = .ok (.iload 5, 2) := by decide +kernel
theorem dX4_combine_53 : decode cX4_combine 53 = .ok (.iconst 0, 1) := by decide +kernel
theorem dX4_combine_54 : decode cX4_combine 54 = .ok (.invokevirtual 75, 3) := by decide +kernel
theorem dX4_combine_57 : decode cX4_combine 57 = .ok (.aload_n 0, 1) := by decide +kernel
theorem dX4_combine_58 : decode cX4_combine 58 = .ok (.getfield 19, 3) := by decide +kernel
theorem dX4_combine_61 : decode cX4_combine 61 = .ok (.iload_n 2, 1) := by decide +kernel
theorem dX4_combine_62 : decode cX4_combine 62 = .ok (.iload 6, 2) := by decide +kernel
theorem dX4_combine_64 : decode cX4_combine 64 = .ok (.iload 5, 2) := by decide +kernel
theorem dX4_combine_66 : decode cX4_combine 66 = .ok (.invokevirtual 81, 3) := by decide +kernel
theorem dX4_combine_69 : decode cX4_combine 69 = .ok (.ireturn, 1) := by decide +kernel
def c_X4_combine_b69 (F : Nat) (cs1 : CS) (y0 : Int32) : Option (CS × Int32) := some (cs1, y0)
def c_X4_combine_b57 (F : Nat) (cs1 : CS) (u0 : Nat) (u2 : Int32) (u5 : Int32) (u6 : Int32) : Option (CS × Int32) := Option.bind (gR cs1 5 162 u0) fun v_1 => Option.bind (v_1) fun i_3 => Option.bind (ckE cs1 9 i_3) fun _ => Option.bind (c_X8_once F cs1 i_3 u2 u6 u5) fun z_2 => c_X4_combine_b69 F z_2.1 z_2.2
def c_X4_combine_b44 (F : Nat) (cs1 : CS) (u0 : Nat) (u2 : Int32) (u5 : Int32) (u6 : Int32) : Option (CS × Int32) := Option.bind (gR cs1 5 162 u0) fun v_5 => Option.bind (v_5) fun i_7 => Option.bind (ckE cs1 9 i_7) fun _ => Option.bind (c_X8_sort F cs1 i_7 u2 u6 u5 0) fun cs_6 => c_X4_combine_b57 F cs_6 u0 u2 u5 u6
def c_X4_combine_b42 (F : Nat) (cs1 : CS) (u0 : Nat) (u2 : Int32) (u5 : Int32) (y0 : Int32) : Option (CS × Int32) := c_X4_combine_b44 F cs1 u0 u2 u5 y0
def c_X4_combine_b33 (F : Nat) (cs1 : CS) (u0 : Nat) (u2 : Int32) (u3 : Int32) (u4 : Int32) (u5 : Int32) (y0 : Int32) (y1 : Nat) : Option (CS × Int32) := Option.bind (ckE cs1 5 y1) fun _ => Option.bind (c_X4_sift F cs1 y1 y0 u2 u3 u4 u5) fun z_9 => c_X4_combine_b42 F z_9.1 u0 u2 u5 z_9.2
def c_X4_combine (F : Nat) (cs : CS) (x0 : Nat) (x1 : Int32) (x2 : Int32) (x3 : Int32) (x4 : Int32) (x5 : Int32) : Option (CS × Int32) := if x1 = 11 then (some (cs, x3 + x4)) else (if x1 = 10 then (c_X4_combine_b44 F cs x0 x2 x5 (x3 + x4)) else (if x1 = 13 then (c_X4_combine_b33 F cs x0 x2 x3 x4 x5 1 x0) else (c_X4_combine_b33 F cs x0 x2 x3 x4 x5 0 x0)))
theorem cw_X4_X4_combine {R : Room} {s : State} {args : Array Value} {y0 : MethodName} {c0 : ByteArray} {n0 : Nat} {r0 : Option FieldType} (hts : ∀ w ∈ wsOf y0 c0 n0 r0, w.before args s = true) {fr mc ms : Nat} (h1 : fr + 1 ≤ R.frames) (h2 : 8 + (7 + 11) + 60 * fr ≤ R.locals) : CallW R s args RX4 RX4 57 yX4_combine cX4_combine 7 (some .int) (wsOf yX4_combine cX4_combine 7 (some .int)) ({ frames := fr, cells := mc, slots := ms, locals := 60 * fr } : Room) mc ms 5 := cwV 5 hts (gd_all (in_V kw_1533 kw_1535 kw_87 kw_206 kc_X4_combine)) rfl rfl rfl (by decide +kernel) ⟨h1, h2⟩
theorem mo_c_X4_combine_b69 (F : Nat) (cs1 : CS) (y0 : Int32) (cs9 : CS) (r9 : Int32) (h : c_X4_combine_b69 F cs1 y0 = some (cs9, r9)) : kK cs1 ≤ kK cs9 ∧ kM cs1 ≤ kM cs9 := by
  unfold c_X4_combine_b69 at h
  have h9 := (Prod.mk.inj (Option.some.inj h)).1
  have k9 := congrArg kK h9; have m9 := congrArg kM h9; exact ⟨by omega, by omega⟩
theorem mo_c_X4_combine_b57 (F : Nat) (cs1 : CS) (u0 : Nat) (u2 : Int32) (u5 : Int32) (u6 : Int32) (cs9 : CS) (r9 : Int32) (h : c_X4_combine_b57 F cs1 u0 u2 u5 u6 = some (cs9, r9)) : kK cs1 ≤ kK cs9 ∧ kM cs1 ≤ kM cs9 := by
  unfold c_X4_combine_b57 at h
  replace h := ob h; obtain ⟨v_11, hv_11, h⟩ := h
  replace h := ob h; obtain ⟨i_13, hi_13, h⟩ := h
  subst hi_13
  replace h := ob h; obtain ⟨w_14, hw_14, h⟩ := h
  replace h := ob h; obtain ⟨z_12, hv_12, h⟩ := h
  obtain ⟨qk_12, qm_12⟩ := mo_c_X8_once F cs1 i_13 u2 u6 u5 z_12.1 z_12.2 hv_12
  obtain ⟨k9, m9⟩ := mo_c_X4_combine_b69 F z_12.1 z_12.2 cs9 r9 h
  exact ⟨by omega, by omega⟩
theorem mo_c_X4_combine_b44 (F : Nat) (cs1 : CS) (u0 : Nat) (u2 : Int32) (u5 : Int32) (u6 : Int32) (cs9 : CS) (r9 : Int32) (h : c_X4_combine_b44 F cs1 u0 u2 u5 u6 = some (cs9, r9)) : kK cs1 ≤ kK cs9 ∧ kM cs1 ≤ kM cs9 := by
  unfold c_X4_combine_b44 at h
  replace h := ob h; obtain ⟨v_11, hv_11, h⟩ := h
  replace h := ob h; obtain ⟨i_13, hi_13, h⟩ := h
  subst hi_13
  replace h := ob h; obtain ⟨w_14, hw_14, h⟩ := h
  replace h := ob h; obtain ⟨cs_12, hv_12, h⟩ := h
  obtain ⟨qk_12, qm_12⟩ := mo_c_X8_sort F cs1 i_13 u2 u6 u5 0 cs_12 hv_12
  obtain ⟨k9, m9⟩ := mo_c_X4_combine_b57 F cs_12 u0 u2 u5 u6 cs9 r9 h
  exact ⟨by omega, by omega⟩
theorem mo_c_X4_combine_b42 (F : Nat) (cs1 : CS) (u0 : Nat) (u2 : Int32) (u5 : Int32) (y0 : Int32) (cs9 : CS) (r9 : Int32) (h : c_X4_combine_b42 F cs1 u0 u2 u5 y0 = some (cs9, r9)) : kK cs1 ≤ kK cs9 ∧ kM cs1 ≤ kM cs9 := by
  unfold c_X4_combine_b42 at h
  obtain ⟨k9, m9⟩ := mo_c_X4_combine_b44 F cs1 u0 u2 u5 y0 cs9 r9 h
  exact ⟨by omega, by omega⟩
theorem mo_c_X4_combine_b33 (F : Nat) (cs1 : CS) (u0 : Nat) (u2 : Int32) (u3 : Int32) (u4 : Int32) (u5 : Int32) (y0 : Int32) (y1 : Nat) (cs9 : CS) (r9 : Int32) (h : c_X4_combine_b33 F cs1 u0 u2 u3 u4 u5 y0 y1 = some (cs9, r9)) : kK cs1 ≤ kK cs9 ∧ kM cs1 ≤ kM cs9 := by
  unfold c_X4_combine_b33 at h
  replace h := ob h; obtain ⟨w_12, hw_12, h⟩ := h
  replace h := ob h; obtain ⟨z_11, hv_11, h⟩ := h
  obtain ⟨qk_11, qm_11⟩ := mo_c_X4_sift F cs1 y1 y0 u2 u3 u4 u5 z_11.1 z_11.2 hv_11
  obtain ⟨k9, m9⟩ := mo_c_X4_combine_b42 F z_11.1 u0 u2 u5 z_11.2 cs9 r9 h
  exact ⟨by omega, by omega⟩
theorem mo_c_X4_combine (F : Nat) (cs : CS) (x0 : Nat) (x1 : Int32) (x2 : Int32) (x3 : Int32) (x4 : Int32) (x5 : Int32) (cs9 : CS) (r9 : Int32) (h : c_X4_combine F cs x0 x1 x2 x3 x4 x5 = some (cs9, r9)) : kK cs ≤ kK cs9 ∧ kM cs ≤ kM cs9 := by
  unfold c_X4_combine at h
  by_cases c_11 : x1 = 11
  · skip
    replace h := (if_pos c_11).symm.trans h
    have h9 := (Prod.mk.inj (Option.some.inj h)).1
    have k9 := congrArg kK h9; have m9 := congrArg kM h9; exact ⟨by omega, by omega⟩
  · skip
    replace h := (if_neg c_11).symm.trans h
    by_cases c_12 : x1 = 10
    · skip
      replace h := (if_pos c_12).symm.trans h
      obtain ⟨k9, m9⟩ := mo_c_X4_combine_b44 F cs x0 x2 x5 (x3 + x4) cs9 r9 h
      exact ⟨by omega, by omega⟩
    · skip
      replace h := (if_neg c_12).symm.trans h
      by_cases c_13 : x1 = 13
      · skip
        replace h := (if_pos c_13).symm.trans h
        obtain ⟨k9, m9⟩ := mo_c_X4_combine_b33 F cs x0 x2 x3 x4 x5 1 x0 cs9 r9 h
        exact ⟨by omega, by omega⟩
      · skip
        replace h := (if_neg c_13).symm.trans h
        obtain ⟨k9, m9⟩ := mo_c_X4_combine_b33 F cs x0 x2 x3 x4 x5 0 x0 cs9 r9 h
        exact ⟨by omega, by omega⟩
set_option maxHeartbeats 4000000 in
set_option maxRecDepth 100000 in
theorem sa_X4_combine (l : Launch) (dC : Nat → ClassId) (dI : Nat → Nat → Nat) (cB cI cJ cZ cS cO : ClassId) (b : Nat) (K V : Nat → Nat) (fz : Value) (F : Nat) (cs : CS) (x0 : Nat) (x1 : Int32) (x2 : Int32) (x3 : Int32) (x4 : Int32) (x5 : Int32) (cs9 : CS) (r9 : Int32) (hf : c_X4_combine F cs x0 x1 x2 x3 x4 x5 = some (cs9, r9)) : oaI l dC dI cB cI cJ cZ cS cO b K V fz yX4_combine (wsOf yX4_combine cX4_combine 7 (some .int)) (6) [.ref (b + x0), .int x1, .int x2, .int x3, .int x4, .int x5] cs cs9 r9 := by
  obtain ⟨kb9, mb9⟩ := mo_c_X4_combine F cs x0 x1 x2 x3 x4 x5 cs9 r9 hf
  refine ⟨⟨kb9, mb9⟩, ?_⟩
  refine Met.ofW (cc := cX4_combine) (maxL := 7) (ret := (some .int)) (by decide) rfl ?_
  intro p e s m args below meth c s₁ B hml hv
  obtain ⟨rfl, hsz, hP, hK, hD0, hZ⟩ := hv
  have hx := B.exec
  have hb := B.bytes
  have hr := B.returns
  have hts := atoms_spec (ws := (wsOf yX4_combine cX4_combine 7 (some .int))) B.pre
  have hown : s.vm.findClass RX4 = some m.cls := findClass_of_methodNamed B.named
  have hlocks := B.notSynchronized
  have hD := hD0.self (sz := b + kK cs)
  generalize hAe : va_A (cW cB cI cJ cZ cS cO b cs) (b + kK cs) = A at hD hZ ⊢
  have hA : ∀ q : Nat, s.heap.size ≤ q → A q := fun q h => by rw [← hAe]; exact Or.inr (by omega)
  have hS : va_S A s.heap s.heap [] := va_S.rf
  have hG : va_S A s.heap s.heap [] := va_S.rf
  have hgz : s.heap.size = b + kK cs := hsz
  have hl := lv_entry ([.ref (b + x0), .int x1, .int x2, .int x3, .int x4, .int x5]) (n := 7) (Nat.le_of_ble_eq_true rfl)
  rw [lg_entry_eq]
  generalize (lg_sl ([.ref (b + x0), .int x1, .int x2, .int x3, .int x4, .int x5]) ++ List.replicate (7 - (lg_sl ([.ref (b + x0), .int x1, .int x2, .int x3, .int x4, .int x5])).length) Slot.unset).toArray = ls at hl ⊢
  have hl : lv_has ls 7 [(0, .ref (b + x0)), (1, .int x1), (2, .int x2), (3, .int x3), (4, .int x4), (5, .int x5)] := hl
  have B_69 : ∀ (cs1 : CS) (y0 : Int32), c_X4_combine_b69 F cs1 y0 = some (cs9, r9) → kK cs ≤ kK cs1 → kM cs ≤ kM cs1 → ∀ (Gh H : Heap) (locs : List Loc) (ls : Array Slot), va_P (dC, dI) vwCl (cW cB cI cJ cZ cS cO b cs1) H → va_D A (cW cB cI cJ cZ cS cO b cs1) → va_S A s.heap Gh [] → Gh.size = b + kK cs1 → va_S A Gh H locs → lv_has ls 7 [] → W p l e (headSpec (wsOf yX4_combine cX4_combine 7 (some .int)) ({ frames := 6, cells := kK cs9 - kK cs, slots := kM cs9 - kM cs, locals := 60 * (6) } : Room)).room s m ([.ref (b + x0), .int x1, .int x2, .int x3, .int x4, .int x5] : List Value).toArray below meth c H locs (kK cs1 - kK cs) (kM cs1 - kM cs) (MQ below (va_Qi (fun (x : Int32) (_ : Unit) => x = r9) (fun _ t_ => va_P (dC, dI) vwCl (cW cB cI cJ cZ cS cO b cs9) t_.heap ∧ va_D A (cW cB cI cJ cZ cS cO b cs9) ∧ b + kK cs9 ≤ t_.heap.size) A) ([.ref (b + x0), .int x1, .int x2, .int x3, .int x4, .int x5] : List Value).toArray s (kK cs9 - kK cs) (kM cs9 - kM cs) A) (F0 m 69 ls [.int y0]) := by
    intro cs1 y0 h hmk hmm Gh H locs ls hP hD hG hgz hS hl
    obtain ⟨kb9, mb9⟩ := mo_c_X4_combine_b69 F cs1 y0 cs9 r9 h
    unfold c_X4_combine_b69 at h
    obtain ⟨e1, e2⟩ := Prod.mk.inj (Option.some.inj h)
    rw [e1] at hP hD
    have e3 := congrArg kK e1
    have e4 := congrArg kM e1
    refine W_cnt (c2 := kK cs9 - kK cs) (n2 := kM cs9 - kM cs) (by omega) (by omega) ?_
    exact W.iret (v := y0) hx hb hr (fun t_ ht hW => ⟨⟨y0, (), rfl, e2, by rw [ht]; exact hP, hD, by rw [ht]; have := hS.1; omega⟩, (hG.comp hS).F ht⟩) (hG.comp hS).2.2 dX4_combine_69
  have B_57 : ∀ (cs1 : CS) (u0 : Nat) (u2 : Int32) (u5 : Int32) (u6 : Int32), c_X4_combine_b57 F cs1 u0 u2 u5 u6 = some (cs9, r9) → kK cs ≤ kK cs1 → kM cs ≤ kM cs1 → ∀ (Gh H : Heap) (locs : List Loc) (ls : Array Slot), va_P (dC, dI) vwCl (cW cB cI cJ cZ cS cO b cs1) H → va_D A (cW cB cI cJ cZ cS cO b cs1) → va_S A s.heap Gh [] → Gh.size = b + kK cs1 → va_S A Gh H locs → lv_has ls 7 [(0, .ref (b + u0)), (2, .int u2), (5, .int u5), (6, .int u6)] → W p l e (headSpec (wsOf yX4_combine cX4_combine 7 (some .int)) ({ frames := 6, cells := kK cs9 - kK cs, slots := kM cs9 - kM cs, locals := 60 * (6) } : Room)).room s m ([.ref (b + x0), .int x1, .int x2, .int x3, .int x4, .int x5] : List Value).toArray below meth c H locs (kK cs1 - kK cs) (kM cs1 - kM cs) (MQ below (va_Qi (fun (x : Int32) (_ : Unit) => x = r9) (fun _ t_ => va_P (dC, dI) vwCl (cW cB cI cJ cZ cS cO b cs9) t_.heap ∧ va_D A (cW cB cI cJ cZ cS cO b cs9) ∧ b + kK cs9 ≤ t_.heap.size) A) ([.ref (b + x0), .int x1, .int x2, .int x3, .int x4, .int x5] : List Value).toArray s (kK cs9 - kK cs) (kM cs9 - kM cs) A) (F0 m 57 ls []) := by
    intro cs1 u0 u2 u5 u6 h hmk hmm Gh H locs ls hP hD hG hgz hS hl
    obtain ⟨kb9, mb9⟩ := mo_c_X4_combine_b57 F cs1 u0 u2 u5 u6 cs9 r9 h
    unfold c_X4_combine_b57 at h
    refine lv_aload_n hx hb dX4_combine_57 rfl (lv_at hl 0 rfl) ?_
    replace h := ob h; obtain ⟨v_1, hv_1, h⟩ := h
    refine fg_X4_19 hx hb hts hown hK hP hv_1 dX4_combine_58 ?_
    refine lv_iload_n hx hb dX4_combine_61 rfl (lv_at hl 1 rfl) ?_
    refine lv_iload hx hb dX4_combine_62 (lv_at hl 3 rfl) ?_
    refine lv_iload hx hb dX4_combine_64 (lv_at hl 2 rfl) ?_
    replace h := ob h; obtain ⟨i_3, hi_3, h⟩ := h
    subst hi_3
    replace h := ob h; obtain ⟨w_4, hw_4, h⟩ := h
    replace h := ob h; obtain ⟨z_2, hv_2, h⟩ := h
    obtain ⟨qk_2, qm_2⟩ := mo_c_X8_once F cs1 i_3 u2 u6 u5 z_2.1 z_2.2 hv_2
    obtain ⟨k9_2, m9_2⟩ := mo_c_X4_combine_b69 F z_2.1 z_2.2 cs9 r9 h
    refine cavI (As := [.int u2, .int u6, .int u5]) hx hb hml hts hown hK hP hD hS hG hA (by omega) (by omega) hZ (X := 9) (by decide) rfl (ckE_some hw_4) (sa_X8_once l dC dI cB cI cJ cZ cS cO b K V fz F cs1 i_3 u2 u6 u5 z_2.1 z_2.2 hv_2) (cw_X4_X8_once hts (fr := 5) (Nat.le_of_ble_eq_true rfl) (Nat.le_of_ble_eq_true rfl)) rfl hl.1 (Nat.le_of_ble_eq_true rfl) ⟨by show kK cs1 - kK cs + (kK z_2.1 - kK cs1) ≤ kK cs9 - kK cs; omega, by show kM cs1 - kM cs + (kM z_2.1 - kM cs1) ≤ kM cs9 - kM cs; omega⟩ dX4_combine_66 (fun H locs hP hD hG hgz hS => ?_)
    refine W_cnt (c2 := kK z_2.1 - kK cs) (n2 := kM z_2.1 - kM cs) (by omega) (by omega) ?_
    exact B_69 z_2.1 z_2.2 h (by omega) (by omega) _ _ _ _ hP hD hG (by omega) hS (lv_sub hl [] rfl)
  have B_44 : ∀ (cs1 : CS) (u0 : Nat) (u2 : Int32) (u5 : Int32) (u6 : Int32), c_X4_combine_b44 F cs1 u0 u2 u5 u6 = some (cs9, r9) → kK cs ≤ kK cs1 → kM cs ≤ kM cs1 → ∀ (Gh H : Heap) (locs : List Loc) (ls : Array Slot), va_P (dC, dI) vwCl (cW cB cI cJ cZ cS cO b cs1) H → va_D A (cW cB cI cJ cZ cS cO b cs1) → va_S A s.heap Gh [] → Gh.size = b + kK cs1 → va_S A Gh H locs → lv_has ls 7 [(0, .ref (b + u0)), (2, .int u2), (5, .int u5), (6, .int u6)] → W p l e (headSpec (wsOf yX4_combine cX4_combine 7 (some .int)) ({ frames := 6, cells := kK cs9 - kK cs, slots := kM cs9 - kM cs, locals := 60 * (6) } : Room)).room s m ([.ref (b + x0), .int x1, .int x2, .int x3, .int x4, .int x5] : List Value).toArray below meth c H locs (kK cs1 - kK cs) (kM cs1 - kM cs) (MQ below (va_Qi (fun (x : Int32) (_ : Unit) => x = r9) (fun _ t_ => va_P (dC, dI) vwCl (cW cB cI cJ cZ cS cO b cs9) t_.heap ∧ va_D A (cW cB cI cJ cZ cS cO b cs9) ∧ b + kK cs9 ≤ t_.heap.size) A) ([.ref (b + x0), .int x1, .int x2, .int x3, .int x4, .int x5] : List Value).toArray s (kK cs9 - kK cs) (kM cs9 - kM cs) A) (F0 m 44 ls []) := by
    intro cs1 u0 u2 u5 u6 h hmk hmm Gh H locs ls hP hD hG hgz hS hl
    obtain ⟨kb9, mb9⟩ := mo_c_X4_combine_b44 F cs1 u0 u2 u5 u6 cs9 r9 h
    unfold c_X4_combine_b44 at h
    refine lv_aload_n hx hb dX4_combine_44 rfl (lv_at hl 0 rfl) ?_
    replace h := ob h; obtain ⟨v_5, hv_5, h⟩ := h
    refine fg_X4_19 hx hb hts hown hK hP hv_5 dX4_combine_45 ?_
    refine lv_iload_n hx hb dX4_combine_48 rfl (lv_at hl 1 rfl) ?_
    refine lv_iload hx hb dX4_combine_49 (lv_at hl 3 rfl) ?_
    refine lv_iload hx hb dX4_combine_51 (lv_at hl 2 rfl) ?_
    refine lv_iconst (v := 0) hx hb dX4_combine_53 (by decide) ?_
    replace h := ob h; obtain ⟨i_7, hi_7, h⟩ := h
    subst hi_7
    replace h := ob h; obtain ⟨w_8, hw_8, h⟩ := h
    replace h := ob h; obtain ⟨cs_6, hv_6, h⟩ := h
    obtain ⟨qk_6, qm_6⟩ := mo_c_X8_sort F cs1 i_7 u2 u6 u5 0 cs_6 hv_6
    obtain ⟨k9_6, m9_6⟩ := mo_c_X4_combine_b57 F cs_6 u0 u2 u5 u6 cs9 r9 h
    refine cavV (As := [.int u2, .int u6, .int u5, .int 0]) hx hb hml hts hown hK hP hD hS hG hA (by omega) (by omega) hZ (X := 9) (by decide) rfl (ckE_some hw_8) (sa_X8_sort l dC dI cB cI cJ cZ cS cO b K V fz F cs1 i_7 u2 u6 u5 0 cs_6 hv_6) (cw_X4_X8_sort hts (fr := 5) (Nat.le_of_ble_eq_true rfl) (Nat.le_of_ble_eq_true rfl)) rfl hl.1 (Nat.le_of_ble_eq_true rfl) ⟨by show kK cs1 - kK cs + (kK cs_6 - kK cs1) ≤ kK cs9 - kK cs; omega, by show kM cs1 - kM cs + (kM cs_6 - kM cs1) ≤ kM cs9 - kM cs; omega⟩ dX4_combine_54 (fun H locs hP hD hG hgz hS => ?_)
    refine W_cnt (c2 := kK cs_6 - kK cs) (n2 := kM cs_6 - kM cs) (by omega) (by omega) ?_
    exact B_57 cs_6 u0 u2 u5 u6 h (by omega) (by omega) _ _ _ _ hP hD hG (by omega) hS (lv_sub hl [0, 1, 2, 3] rfl)
  have B_42 : ∀ (cs1 : CS) (u0 : Nat) (u2 : Int32) (u5 : Int32) (y0 : Int32), c_X4_combine_b42 F cs1 u0 u2 u5 y0 = some (cs9, r9) → kK cs ≤ kK cs1 → kM cs ≤ kM cs1 → ∀ (Gh H : Heap) (locs : List Loc) (ls : Array Slot), va_P (dC, dI) vwCl (cW cB cI cJ cZ cS cO b cs1) H → va_D A (cW cB cI cJ cZ cS cO b cs1) → va_S A s.heap Gh [] → Gh.size = b + kK cs1 → va_S A Gh H locs → lv_has ls 7 [(0, .ref (b + u0)), (2, .int u2), (5, .int u5)] → W p l e (headSpec (wsOf yX4_combine cX4_combine 7 (some .int)) ({ frames := 6, cells := kK cs9 - kK cs, slots := kM cs9 - kM cs, locals := 60 * (6) } : Room)).room s m ([.ref (b + x0), .int x1, .int x2, .int x3, .int x4, .int x5] : List Value).toArray below meth c H locs (kK cs1 - kK cs) (kM cs1 - kM cs) (MQ below (va_Qi (fun (x : Int32) (_ : Unit) => x = r9) (fun _ t_ => va_P (dC, dI) vwCl (cW cB cI cJ cZ cS cO b cs9) t_.heap ∧ va_D A (cW cB cI cJ cZ cS cO b cs9) ∧ b + kK cs9 ≤ t_.heap.size) A) ([.ref (b + x0), .int x1, .int x2, .int x3, .int x4, .int x5] : List Value).toArray s (kK cs9 - kK cs) (kM cs9 - kM cs) A) (F0 m 42 ls [.int y0]) := by
    intro cs1 u0 u2 u5 y0 h hmk hmm Gh H locs ls hP hD hG hgz hS hl
    obtain ⟨kb9, mb9⟩ := mo_c_X4_combine_b42 F cs1 u0 u2 u5 y0 cs9 r9 h
    unfold c_X4_combine_b42 at h
    refine lv_istore (lv' := [(6, .int y0), (0, .ref (b + u0)), (2, .int u2), (5, .int u5)]) hx hb dX4_combine_42 hl (by decide) rfl (fun ls hl => ?_)
    refine W_cnt (c2 := kK cs1 - kK cs) (n2 := kM cs1 - kM cs) (by omega) (by omega) ?_
    exact B_44 cs1 u0 u2 u5 y0 h (by omega) (by omega) _ _ _ _ hP hD hG (by omega) hS (lv_sub hl [1, 2, 3, 0] rfl)
  have B_33 : ∀ (cs1 : CS) (u0 : Nat) (u2 : Int32) (u3 : Int32) (u4 : Int32) (u5 : Int32) (y0 : Int32) (y1 : Nat), c_X4_combine_b33 F cs1 u0 u2 u3 u4 u5 y0 y1 = some (cs9, r9) → kK cs ≤ kK cs1 → kM cs ≤ kM cs1 → ∀ (Gh H : Heap) (locs : List Loc) (ls : Array Slot), va_P (dC, dI) vwCl (cW cB cI cJ cZ cS cO b cs1) H → va_D A (cW cB cI cJ cZ cS cO b cs1) → va_S A s.heap Gh [] → Gh.size = b + kK cs1 → va_S A Gh H locs → lv_has ls 7 [(0, .ref (b + u0)), (2, .int u2), (3, .int u3), (4, .int u4), (5, .int u5)] → W p l e (headSpec (wsOf yX4_combine cX4_combine 7 (some .int)) ({ frames := 6, cells := kK cs9 - kK cs, slots := kM cs9 - kM cs, locals := 60 * (6) } : Room)).room s m ([.ref (b + x0), .int x1, .int x2, .int x3, .int x4, .int x5] : List Value).toArray below meth c H locs (kK cs1 - kK cs) (kM cs1 - kM cs) (MQ below (va_Qi (fun (x : Int32) (_ : Unit) => x = r9) (fun _ t_ => va_P (dC, dI) vwCl (cW cB cI cJ cZ cS cO b cs9) t_.heap ∧ va_D A (cW cB cI cJ cZ cS cO b cs9) ∧ b + kK cs9 ≤ t_.heap.size) A) ([.ref (b + x0), .int x1, .int x2, .int x3, .int x4, .int x5] : List Value).toArray s (kK cs9 - kK cs) (kM cs9 - kM cs) A) (F0 m 33 ls [.int y0, .ref (b + y1)]) := by
    intro cs1 u0 u2 u3 u4 u5 y0 y1 h hmk hmm Gh H locs ls hP hD hG hgz hS hl
    obtain ⟨kb9, mb9⟩ := mo_c_X4_combine_b33 F cs1 u0 u2 u3 u4 u5 y0 y1 cs9 r9 h
    unfold c_X4_combine_b33 at h
    refine lv_iload_n hx hb dX4_combine_33 rfl (lv_at hl 1 rfl) ?_
    refine lv_iload_n hx hb dX4_combine_34 rfl (lv_at hl 2 rfl) ?_
    refine lv_iload hx hb dX4_combine_35 (lv_at hl 3 rfl) ?_
    refine lv_iload hx hb dX4_combine_37 (lv_at hl 4 rfl) ?_
    replace h := ob h; obtain ⟨w_10, hw_10, h⟩ := h
    replace h := ob h; obtain ⟨z_9, hv_9, h⟩ := h
    obtain ⟨qk_9, qm_9⟩ := mo_c_X4_sift F cs1 y1 y0 u2 u3 u4 u5 z_9.1 z_9.2 hv_9
    obtain ⟨k9_9, m9_9⟩ := mo_c_X4_combine_b42 F z_9.1 u0 u2 u5 z_9.2 cs9 r9 h
    refine cavI (As := [.int y0, .int u2, .int u3, .int u4, .int u5]) hx hb hml hts hown hK hP hD hS hG hA (by omega) (by omega) hZ (X := 5) (by decide) rfl (ckE_some hw_10) (sa_X4_sift l dC dI cB cI cJ cZ cS cO b K V fz F cs1 y1 y0 u2 u3 u4 u5 z_9.1 z_9.2 hv_9) (cw_X4_X4_sift hts (fr := 5) (Nat.le_of_ble_eq_true rfl) (Nat.le_of_ble_eq_true rfl)) rfl hl.1 (Nat.le_of_ble_eq_true rfl) ⟨by show kK cs1 - kK cs + (kK z_9.1 - kK cs1) ≤ kK cs9 - kK cs; omega, by show kM cs1 - kM cs + (kM z_9.1 - kM cs1) ≤ kM cs9 - kM cs; omega⟩ dX4_combine_39 (fun H locs hP hD hG hgz hS => ?_)
    refine W_cnt (c2 := kK z_9.1 - kK cs) (n2 := kM z_9.1 - kM cs) (by omega) (by omega) ?_
    exact B_42 z_9.1 u0 u2 u5 z_9.2 h (by omega) (by omega) _ _ _ _ hP hD hG (by omega) hS (lv_sub hl [0, 1, 4] rfl)
  have h := hf
  unfold c_X4_combine at h
  refine W_cnt (c2 := kK cs - kK cs) (n2 := kM cs - kM cs) (by omega) (by omega) ?_
  refine lv_iload_n hx hb dX4_combine_0 rfl (lv_at hl 3 rfl) ?_
  refine lv_iload hx hb dX4_combine_1 (lv_at hl 4 rfl) ?_
  refine lv_iadd hx hb dX4_combine_3 ?_
  refine lv_istore (lv' := [(6, .int (x3 + x4)), (0, .ref (b + x0)), (1, .int x1), (2, .int x2), (3, .int x3), (4, .int x4), (5, .int x5)]) hx hb dX4_combine_4 hl (by decide) rfl (fun ls hl => ?_)
  refine lv_iload_n hx hb dX4_combine_6 rfl (lv_at hl 2 rfl) ?_
  refine lv_bipush (v := 11) hx hb dX4_combine_7 (by decide) ?_
  refine lv_icmp_ne (tgt := 15) hx hb dX4_combine_9 (by decide) (fun c_11 => ?_) (fun c_11 => ?_)
  · skip
    replace h := (if_neg c_11).symm.trans h
    refine lv_iload_n hx hb dX4_combine_15 rfl (lv_at hl 2 rfl) ?_
    refine lv_bipush (v := 10) hx hb dX4_combine_16 (by decide) ?_
    refine lv_icmp_eq (tgt := 44) hx hb dX4_combine_18 (by decide) (fun c_12 => ?_) (fun c_12 => ?_)
    · skip
      replace h := (if_pos c_12).symm.trans h
      refine W_cnt (c2 := kK cs - kK cs) (n2 := kM cs - kM cs) (by omega) (by omega) ?_
      exact B_44 cs x0 x2 x5 (x3 + x4) h (by omega) (by omega) _ _ _ _ hP hD hG (by omega) hS (lv_sub hl [1, 3, 6, 0] rfl)
    · skip
      replace h := (if_neg c_12).symm.trans h
      refine lv_aload_n hx hb dX4_combine_21 rfl (lv_at hl 1 rfl) ?_
      refine lv_iload_n hx hb dX4_combine_22 rfl (lv_at hl 2 rfl) ?_
      refine lv_bipush (v := 13) hx hb dX4_combine_23 (by decide) ?_
      refine lv_icmp_ne (tgt := 32) hx hb dX4_combine_25 (by decide) (fun c_13 => ?_) (fun c_13 => ?_)
      · skip
        replace h := (if_neg c_13).symm.trans h
        refine lv_iconst (v := 0) hx hb dX4_combine_32 (by decide) ?_
        refine W_cnt (c2 := kK cs - kK cs) (n2 := kM cs - kM cs) (by omega) (by omega) ?_
        exact B_33 cs x0 x2 x3 x4 x5 0 x0 h (by omega) (by omega) _ _ _ _ hP hD hG (by omega) hS (lv_sub hl [1, 3, 4, 5, 6] rfl)
      · skip
        replace h := (if_pos c_13).symm.trans h
        refine lv_iconst (v := 1) hx hb dX4_combine_28 (by decide) ?_
        refine lv_goto (tgt := 33) hx hb dX4_combine_29 (by decide) ?_
        refine W_cnt (c2 := kK cs - kK cs) (n2 := kM cs - kM cs) (by omega) (by omega) ?_
        exact B_33 cs x0 x2 x3 x4 x5 1 x0 h (by omega) (by omega) _ _ _ _ hP hD hG (by omega) hS (lv_sub hl [1, 3, 4, 5, 6] rfl)
  · skip
    replace h := (if_pos c_11).symm.trans h
    refine lv_iload hx hb dX4_combine_12 (lv_at hl 0 rfl) ?_
    obtain ⟨e1, e2⟩ := Prod.mk.inj (Option.some.inj h)
    rw [e1] at hP hD
    have e3 := congrArg kK e1
    have e4 := congrArg kM e1
    refine W_cnt (c2 := kK cs9 - kK cs) (n2 := kM cs9 - kM cs) (by omega) (by omega) ?_
    exact W.iret (v := x3 + x4) hx hb hr (fun t_ ht hW => ⟨⟨x3 + x4, (), rfl, e2, by rw [ht]; exact hP, hD, by rw [ht]; have := hS.1; omega⟩, (hG.comp hS).F ht⟩) (hG.comp hS).2.2 dX4_combine_14
theorem dX8_take_0 : decode cX8_take 0 = .ok (.aload_n 0, 1) := by decide +kernel
theorem dX8_take_1 : decode cX8_take 1 = .ok (.iload_n 2, 1) := by decide +kernel
theorem dX8_take_2 : decode cX8_take 2 = .ok (.invokevirtual 39, 3) := by decide +kernel
theorem dX8_take_5 : decode cX8_take 5 = .ok (.iload_n 2, 1) := by decide +kernel
theorem dX8_take_6 : decode cX8_take 6 = .ok (.ifCond .le 51, 3) := by decide +kernel
theorem dX8_take_9 : decode cX8_take 9 = .ok (.aload_n 0, 1) := by decide +kernel
theorem dX8_take_10 : decode cX8_take 10 = .ok (.iload_n 2, 1) := by decide +kernel
theorem dX8_take_11 : decode cX8_take 11 = .ok (.iconst 1, 1) := by decide +kernel
theorem dX8_take_12 : decode cX8_take 12 = .ok (.isub, 1) := by decide +kernel
theorem dX8_take_13 : decode cX8_take 13 = .ok (.invokevirtual 35, 3) := by decide +kernel
theorem dX8_take_16 : decode cX8_take 16 = .ok (.ifCond .eq 41, 3) := by decide +kernel
theorem dX8_take_19 : decode cX8_take 19 = .ok (.aload_n 1, 1) := by decide +kernel
theorem dX8_take_20 : decode cX8_take 20 = .ok (.iload_n 2, 1) := by decide +kernel
theorem dX8_take_21 : decode cX8_take 21 = .ok (.iconst 1, 1) := by decide +kernel
theorem dX8_take_22 : decode cX8_take 22 = .ok (.isub, 1) := by decide +kernel
theorem dX8_take_23 : decode cX8_take 23 = .ok (.invokevirtual 35, 3) := by decide +kernel
theorem dX8_take_26 : decode cX8_take 26 = .ok (.ifCond .eq 31, 3) := by decide +kernel
theorem dX8_take_29 : decode cX8_take 29 = .ok (.aload_n 1, 1) := by decide +kernel
theorem dX8_take_30 : decode cX8_take 30 = .ok (.getfield 11, 3) := by decide +kernel
theorem dX8_take_33 : decode cX8_take 33 = .ok (.iconst 0, 1) := by decide +kernel
theorem dX8_take_34 : decode cX8_take 34 = .ok (.aload_n 0, 1) := by decide +kernel
theorem dX8_take_35 : decode cX8_take 35 = .ok (.getfield 11, 3) := by decide +kernel
theorem dX8_take_38 : decode cX8_take 38 = .ok (.iconst 0, 1) := by decide +kernel
theorem dX8_take_39 : decode cX8_take 39 = .ok (.iload_n 2, 1) := by decide +kernel
theorem dX8_take_40 : decode cX8_take 40 = .ok (.invokestatic 53, 3) := by decide +kernel
theorem dX8_take_43 : decode cX8_take 43 = .ok (.aload_n 1, 1) := by decide +kernel
theorem dX8_take_44 : decode cX8_take 44 = .ok (.getfield 15, 3) := by decide +kernel
theorem dX8_take_47 : decode cX8_take 47 = .ok (.iconst 0, 1) := by decide +kernel
theorem dX8_take_48 : decode cX8_take 48 = .ok (.aload_n 0, 1) := by decide +kernel
theorem dX8_take_49 : decode cX8_take 49 = .ok (.getfield 15, 3) := by decide +kernel
theorem dX8_take_52 : decode cX8_take 52 = .ok (.iconst 0, 1) := by decide +kernel
theorem dX8_take_53 : decode cX8_take 53 = .ok (.iload_n 2, 1) := by decide +kernel
theorem dX8_take_54 : decode cX8_take 54 = .ok (.invokestatic 53, 3) := by decide +kernel
theorem dX8_take_57 : decode cX8_take 57 = .ok (.return_, 1) := by decide +kernel
def c_X8_take_b57 (F : Nat) (cs1 : CS) : Option CS := some cs1
def c_X8_take_b5 (F : Nat) (cs1 : CS) (u0 : Nat) (u1 : Nat) (u2 : Int32) : Option CS := if u2 ≤ 0 then (c_X8_take_b57 F cs1) else (Option.bind (ckE cs1 9 u0) fun _ => Option.bind (c_X8_holds F cs1 u0 (u2 - 1)) fun v_2 => if v_2 = 0 then (c_X8_take_b57 F cs1) else (Option.bind (ckE cs1 9 u1) fun _ => Option.bind (c_X8_holds F cs1 u1 (u2 - 1)) fun v_5 => if v_5 = 0 then (c_X8_take_b57 F cs1) else (Option.bind (gA cs1 9 288 u1) fun v_8 => Option.bind (gA cs1 9 288 u0) fun v_9 => Option.bind (cpB cs1 288 u1 v_8 0 288 u0 v_9 0 u2) fun cs_10 => Option.bind (gA cs_10 9 289 u1) fun v_11 => Option.bind (gA cs_10 9 289 u0) fun v_12 => Option.bind (cpA cs_10 289 u1 v_11 0 289 u0 v_12 0 u2) fun cs_13 => c_X8_take_b57 F cs_13)))
def c_X8_take (F : Nat) (cs : CS) (x0 : Nat) (x1 : Nat) (x2 : Int32) : Option CS := Option.bind (ckE cs 9 x0) fun _ => Option.bind (c_X8_reserve F cs x0 x2) fun cs_14 => c_X8_take_b5 F cs_14 x0 x1 x2
theorem cw_X11_X8_take {R : Room} {s : State} {args : Array Value} {y0 : MethodName} {c0 : ByteArray} {n0 : Nat} {r0 : Option FieldType} (hts : ∀ w ∈ wsOf y0 c0 n0 r0, w.before args s = true) {fr mc ms : Nat} (h1 : fr + 1 ≤ R.frames) (h2 : 8 + (3 + 11) + 60 * fr ≤ R.locals) : CallW R s args RX11 RX8 207 yX8_take cX8_take 3 none (wsOf yX8_take cX8_take 3 none) ({ frames := fr, cells := mc, slots := ms, locals := 60 * fr } : Room) mc ms 2 := cwV 2 hts (gd_all (in_V kw_1333 kw_1334 kw_1335 kw_188 kc_X8_take)) rfl rfl rfl (by decide +kernel) ⟨h1, h2⟩
theorem mo_c_X8_take_b57 (F : Nat) (cs1 : CS) (cs9 : CS) (h : c_X8_take_b57 F cs1 = some cs9) : kK cs1 ≤ kK cs9 ∧ kM cs1 ≤ kM cs9 := by
  unfold c_X8_take_b57 at h
  have h9 := Option.some.inj h
  have k9 := congrArg kK h9; have m9 := congrArg kM h9; exact ⟨by omega, by omega⟩
theorem mo_c_X8_take_b5 (F : Nat) (cs1 : CS) (u0 : Nat) (u1 : Nat) (u2 : Int32) (cs9 : CS) (h : c_X8_take_b5 F cs1 u0 u1 u2 = some cs9) : kK cs1 ≤ kK cs9 ∧ kM cs1 ≤ kM cs9 := by
  unfold c_X8_take_b5 at h
  by_cases c_14 : u2 ≤ 0
  · skip
    replace h := (if_pos c_14).symm.trans h
    obtain ⟨k9, m9⟩ := mo_c_X8_take_b57 F cs1 cs9 h
    exact ⟨by omega, by omega⟩
  · skip
    replace h := (if_neg c_14).symm.trans h
    replace h := ob h; obtain ⟨w_16, hw_16, h⟩ := h
    replace h := ob h; obtain ⟨v_15, hv_15, h⟩ := h
    by_cases c_17 : v_15 = 0
    · skip
      replace h := (if_pos c_17).symm.trans h
      obtain ⟨k9, m9⟩ := mo_c_X8_take_b57 F cs1 cs9 h
      exact ⟨by omega, by omega⟩
    · skip
      replace h := (if_neg c_17).symm.trans h
      replace h := ob h; obtain ⟨w_19, hw_19, h⟩ := h
      replace h := ob h; obtain ⟨v_18, hv_18, h⟩ := h
      by_cases c_20 : v_18 = 0
      · skip
        replace h := (if_pos c_20).symm.trans h
        obtain ⟨k9, m9⟩ := mo_c_X8_take_b57 F cs1 cs9 h
        exact ⟨by omega, by omega⟩
      · skip
        replace h := (if_neg c_20).symm.trans h
        replace h := ob h; obtain ⟨v_21, hv_21, h⟩ := h
        replace h := ob h; obtain ⟨v_22, hv_22, h⟩ := h
        replace h := ob h; obtain ⟨cs_23, hv_23, h⟩ := h
        obtain ⟨qk_23, qm_23⟩ := cpB_k hv_23
        replace h := ob h; obtain ⟨v_24, hv_24, h⟩ := h
        replace h := ob h; obtain ⟨v_25, hv_25, h⟩ := h
        replace h := ob h; obtain ⟨cs_26, hv_26, h⟩ := h
        obtain ⟨qk_26, qm_26⟩ := cpA_k hv_26
        obtain ⟨k9, m9⟩ := mo_c_X8_take_b57 F cs_26 cs9 h
        exact ⟨by omega, by omega⟩
theorem mo_c_X8_take (F : Nat) (cs : CS) (x0 : Nat) (x1 : Nat) (x2 : Int32) (cs9 : CS) (h : c_X8_take F cs x0 x1 x2 = some cs9) : kK cs ≤ kK cs9 ∧ kM cs ≤ kM cs9 := by
  unfold c_X8_take at h
  replace h := ob h; obtain ⟨w_15, hw_15, h⟩ := h
  replace h := ob h; obtain ⟨cs_14, hv_14, h⟩ := h
  obtain ⟨qk_14, qm_14⟩ := mo_c_X8_reserve F cs x0 x2 cs_14 hv_14
  obtain ⟨k9, m9⟩ := mo_c_X8_take_b5 F cs_14 x0 x1 x2 cs9 h
  exact ⟨by omega, by omega⟩
set_option maxHeartbeats 4000000 in
set_option maxRecDepth 100000 in
theorem sa_X8_take (l : Launch) (dC : Nat → ClassId) (dI : Nat → Nat → Nat) (cB cI cJ cZ cS cO : ClassId) (b : Nat) (K V : Nat → Nat) (fz : Value) (F : Nat) (cs : CS) (x0 : Nat) (x1 : Nat) (x2 : Int32) (cs9 : CS) (hf : c_X8_take F cs x0 x1 x2 = some cs9) : oaV l dC dI cB cI cJ cZ cS cO b K V fz yX8_take (wsOf yX8_take cX8_take 3 none) (4) [.ref (b + x0), .ref (b + x1), .int x2] cs cs9 := by
  obtain ⟨kb9, mb9⟩ := mo_c_X8_take F cs x0 x1 x2 cs9 hf
  refine ⟨⟨kb9, mb9⟩, ?_⟩
  refine Met.ofW (cc := cX8_take) (maxL := 3) (ret := none) (by decide) rfl ?_
  intro p e s m args below meth c s₁ B hml hv
  obtain ⟨rfl, hsz, hP, hK, hD0, hZ⟩ := hv
  have hx := B.exec
  have hb := B.bytes
  have hr := B.returns
  have hts := atoms_spec (ws := (wsOf yX8_take cX8_take 3 none)) B.pre
  have hown : s.vm.findClass RX8 = some m.cls := findClass_of_methodNamed B.named
  have hlocks := B.notSynchronized
  have hD := hD0.self (sz := b + kK cs)
  generalize hAe : va_A (cW cB cI cJ cZ cS cO b cs) (b + kK cs) = A at hD hZ ⊢
  have hA : ∀ q : Nat, s.heap.size ≤ q → A q := fun q h => by rw [← hAe]; exact Or.inr (by omega)
  have hS : va_S A s.heap s.heap [] := va_S.rf
  have hG : va_S A s.heap s.heap [] := va_S.rf
  have hgz : s.heap.size = b + kK cs := hsz
  have hl := lv_entry ([.ref (b + x0), .ref (b + x1), .int x2]) (n := 3) (Nat.le_of_ble_eq_true rfl)
  rw [lg_entry_eq]
  generalize (lg_sl ([.ref (b + x0), .ref (b + x1), .int x2]) ++ List.replicate (3 - (lg_sl ([.ref (b + x0), .ref (b + x1), .int x2])).length) Slot.unset).toArray = ls at hl ⊢
  have hl : lv_has ls 3 [(0, .ref (b + x0)), (1, .ref (b + x1)), (2, .int x2)] := hl
  have B_57 : ∀ (cs1 : CS) , c_X8_take_b57 F cs1 = some cs9 → kK cs ≤ kK cs1 → kM cs ≤ kM cs1 → ∀ (Gh H : Heap) (locs : List Loc) (ls : Array Slot), va_P (dC, dI) vwCl (cW cB cI cJ cZ cS cO b cs1) H → va_D A (cW cB cI cJ cZ cS cO b cs1) → va_S A s.heap Gh [] → Gh.size = b + kK cs1 → va_S A Gh H locs → lv_has ls 3 [] → W p l e (headSpec (wsOf yX8_take cX8_take 3 none) ({ frames := 4, cells := kK cs9 - kK cs, slots := kM cs9 - kM cs, locals := 60 * (4) } : Room)).room s m ([.ref (b + x0), .ref (b + x1), .int x2] : List Value).toArray below meth c H locs (kK cs1 - kK cs) (kM cs1 - kM cs) (MQ below (va_Qv (fun (_ : Unit) => True) (fun _ t_ => va_P (dC, dI) vwCl (cW cB cI cJ cZ cS cO b cs9) t_.heap ∧ va_D A (cW cB cI cJ cZ cS cO b cs9) ∧ b + kK cs9 ≤ t_.heap.size) A) ([.ref (b + x0), .ref (b + x1), .int x2] : List Value).toArray s (kK cs9 - kK cs) (kM cs9 - kM cs) A) (F0 m 57 ls []) := by
    intro cs1  h hmk hmm Gh H locs ls hP hD hG hgz hS hl
    obtain ⟨kb9, mb9⟩ := mo_c_X8_take_b57 F cs1  cs9 h
    unfold c_X8_take_b57 at h
    have e1 := Option.some.inj h
    rw [e1] at hP hD
    have e3 := congrArg kK e1
    have e4 := congrArg kM e1
    refine W_cnt (c2 := kK cs9 - kK cs) (n2 := kM cs9 - kM cs) (by omega) (by omega) ?_
    exact W.vret hx hb hr (fun t_ ht hW => ⟨⟨(), rfl, trivial, by rw [ht]; exact hP, hD, by rw [ht]; have := hS.1; omega⟩, (hG.comp hS).F ht⟩) (hG.comp hS).2.2 dX8_take_57
  have B_5 : ∀ (cs1 : CS) (u0 : Nat) (u1 : Nat) (u2 : Int32), c_X8_take_b5 F cs1 u0 u1 u2 = some cs9 → kK cs ≤ kK cs1 → kM cs ≤ kM cs1 → ∀ (Gh H : Heap) (locs : List Loc) (ls : Array Slot), va_P (dC, dI) vwCl (cW cB cI cJ cZ cS cO b cs1) H → va_D A (cW cB cI cJ cZ cS cO b cs1) → va_S A s.heap Gh [] → Gh.size = b + kK cs1 → va_S A Gh H locs → lv_has ls 3 [(0, .ref (b + u0)), (1, .ref (b + u1)), (2, .int u2)] → W p l e (headSpec (wsOf yX8_take cX8_take 3 none) ({ frames := 4, cells := kK cs9 - kK cs, slots := kM cs9 - kM cs, locals := 60 * (4) } : Room)).room s m ([.ref (b + x0), .ref (b + x1), .int x2] : List Value).toArray below meth c H locs (kK cs1 - kK cs) (kM cs1 - kM cs) (MQ below (va_Qv (fun (_ : Unit) => True) (fun _ t_ => va_P (dC, dI) vwCl (cW cB cI cJ cZ cS cO b cs9) t_.heap ∧ va_D A (cW cB cI cJ cZ cS cO b cs9) ∧ b + kK cs9 ≤ t_.heap.size) A) ([.ref (b + x0), .ref (b + x1), .int x2] : List Value).toArray s (kK cs9 - kK cs) (kM cs9 - kM cs) A) (F0 m 5 ls []) := by
    intro cs1 u0 u1 u2 h hmk hmm Gh H locs ls hP hD hG hgz hS hl
    obtain ⟨kb9, mb9⟩ := mo_c_X8_take_b5 F cs1 u0 u1 u2 cs9 h
    unfold c_X8_take_b5 at h
    refine lv_iload_n hx hb dX8_take_5 rfl (lv_at hl 2 rfl) ?_
    refine lv_if_le (tgt := 57) hx hb dX8_take_6 (by decide) (fun c_1 => ?_) (fun c_1 => ?_)
    · skip
      replace h := (if_pos c_1).symm.trans h
      refine W_cnt (c2 := kK cs1 - kK cs) (n2 := kM cs1 - kM cs) (by omega) (by omega) ?_
      exact B_57 cs1 h (by omega) (by omega) _ _ _ _ hP hD hG (by omega) hS (lv_sub hl [] rfl)
    · skip
      replace h := (if_neg c_1).symm.trans h
      refine lv_aload_n hx hb dX8_take_9 rfl (lv_at hl 0 rfl) ?_
      refine lv_iload_n hx hb dX8_take_10 rfl (lv_at hl 2 rfl) ?_
      refine lv_iconst (v := 1) hx hb dX8_take_11 (by decide) ?_
      refine lv_isub hx hb dX8_take_12 ?_
      replace h := ob h; obtain ⟨w_3, hw_3, h⟩ := h
      replace h := ob h; obtain ⟨v_2, hv_2, h⟩ := h
      refine cbvI (As := [.int (u2 - 1)]) hx hb hml hts hown hK hP hD hS hG hA (by omega) (by omega) hZ (X := 9) (by decide) rfl (ckE_some hw_3) (sc_X8_holds l dC dI cB cI cJ cZ cS cO b K V fz F cs1 u0 (u2 - 1) v_2 hv_2) (cw_X8_X8_holds hts (fr := 0) (Nat.le_of_ble_eq_true rfl) (Nat.le_of_ble_eq_true rfl)) rfl hl.1 (Nat.le_of_ble_eq_true rfl) ⟨by show kK cs1 - kK cs ≤ kK cs9 - kK cs; omega, by show kM cs1 - kM cs ≤ kM cs9 - kM cs; omega⟩ dX8_take_13 (fun H locs hP hD hG hgz hS => ?_)
      refine lv_if_eq (tgt := 57) hx hb dX8_take_16 (by decide) (fun c_4 => ?_) (fun c_4 => ?_)
      · skip
        replace h := (if_pos c_4).symm.trans h
        refine W_cnt (c2 := kK cs1 - kK cs) (n2 := kM cs1 - kM cs) (by omega) (by omega) ?_
        exact B_57 cs1 h (by omega) (by omega) _ _ _ _ hP hD hG (by omega) hS (lv_sub hl [] rfl)
      · skip
        replace h := (if_neg c_4).symm.trans h
        refine lv_aload_n hx hb dX8_take_19 rfl (lv_at hl 1 rfl) ?_
        refine lv_iload_n hx hb dX8_take_20 rfl (lv_at hl 2 rfl) ?_
        refine lv_iconst (v := 1) hx hb dX8_take_21 (by decide) ?_
        refine lv_isub hx hb dX8_take_22 ?_
        replace h := ob h; obtain ⟨w_6, hw_6, h⟩ := h
        replace h := ob h; obtain ⟨v_5, hv_5, h⟩ := h
        refine cbvI (As := [.int (u2 - 1)]) hx hb hml hts hown hK hP hD hS hG hA (by omega) (by omega) hZ (X := 9) (by decide) rfl (ckE_some hw_6) (sc_X8_holds l dC dI cB cI cJ cZ cS cO b K V fz F cs1 u1 (u2 - 1) v_5 hv_5) (cw_X8_X8_holds hts (fr := 0) (Nat.le_of_ble_eq_true rfl) (Nat.le_of_ble_eq_true rfl)) rfl hl.1 (Nat.le_of_ble_eq_true rfl) ⟨by show kK cs1 - kK cs ≤ kK cs9 - kK cs; omega, by show kM cs1 - kM cs ≤ kM cs9 - kM cs; omega⟩ dX8_take_23 (fun H locs hP hD hG hgz hS => ?_)
        refine lv_if_eq (tgt := 57) hx hb dX8_take_26 (by decide) (fun c_7 => ?_) (fun c_7 => ?_)
        · skip
          replace h := (if_pos c_7).symm.trans h
          refine W_cnt (c2 := kK cs1 - kK cs) (n2 := kM cs1 - kM cs) (by omega) (by omega) ?_
          exact B_57 cs1 h (by omega) (by omega) _ _ _ _ hP hD hG (by omega) hS (lv_sub hl [] rfl)
        · skip
          replace h := (if_neg c_7).symm.trans h
          refine lv_aload_n hx hb dX8_take_29 rfl (lv_at hl 1 rfl) ?_
          replace h := ob h; obtain ⟨v_8, hv_8, h⟩ := h
          refine fg_X8_11 hx hb hts hown hK hP hv_8 dX8_take_30 ?_
          refine lv_iconst (v := 0) hx hb dX8_take_33 (by decide) ?_
          refine lv_aload_n hx hb dX8_take_34 rfl (lv_at hl 0 rfl) ?_
          replace h := ob h; obtain ⟨v_9, hv_9, h⟩ := h
          refine fg_X8_11 hx hb hts hown hK hP hv_9 dX8_take_35 ?_
          refine lv_iconst (v := 0) hx hb dX8_take_38 (by decide) ?_
          refine lv_iload_n hx hb dX8_take_39 rfl (lv_at hl 2 rfl) ?_
          replace h := ob h; obtain ⟨cs_10, hv_10, h⟩ := h
          obtain ⟨qk_10, qm_10⟩ := cpB_k hv_10
          refine acp2 hx hb (hml.trans hl.1.symm) hown (hts _ (List.mem_cons_of_mem _ kw_1363)) (hts _ (List.mem_cons_of_mem _ kw_820)) (hts _ (List.mem_cons_of_mem _ kw_819)) (hts _ (List.mem_cons_of_mem _ kw_202)) hK hP hD hS rfl rfl hv_10 (Nat.le_of_ble_eq_true rfl) (Nat.le_of_ble_eq_true rfl) dX8_take_40 (fun H locs hP hD hS => ?_)
          refine lv_aload_n hx hb dX8_take_43 rfl (lv_at hl 1 rfl) ?_
          replace h := ob h; obtain ⟨v_11, hv_11, h⟩ := h
          refine fg_X8_15 hx hb hts hown hK hP hv_11 dX8_take_44 ?_
          refine lv_iconst (v := 0) hx hb dX8_take_47 (by decide) ?_
          refine lv_aload_n hx hb dX8_take_48 rfl (lv_at hl 0 rfl) ?_
          replace h := ob h; obtain ⟨v_12, hv_12, h⟩ := h
          refine fg_X8_15 hx hb hts hown hK hP hv_12 dX8_take_49 ?_
          refine lv_iconst (v := 0) hx hb dX8_take_52 (by decide) ?_
          refine lv_iload_n hx hb dX8_take_53 rfl (lv_at hl 2 rfl) ?_
          replace h := ob h; obtain ⟨cs_13, hv_13, h⟩ := h
          obtain ⟨qk_13, qm_13⟩ := cpA_k hv_13
          refine acp1 hx hb (hml.trans hl.1.symm) hown (hts _ (List.mem_cons_of_mem _ kw_1363)) (hts _ (List.mem_cons_of_mem _ kw_820)) (hts _ (List.mem_cons_of_mem _ kw_819)) (hts _ (List.mem_cons_of_mem _ kw_202)) hK hP hD hS rfl rfl hv_13 (Nat.le_of_ble_eq_true rfl) (Nat.le_of_ble_eq_true rfl) dX8_take_54 (fun H locs hP hD hS => ?_)
          refine W_cnt (c2 := kK cs_13 - kK cs) (n2 := kM cs_13 - kM cs) (by omega) (by omega) ?_
          exact B_57 cs_13 h (by omega) (by omega) _ _ _ _ hP hD hG (by omega) hS (lv_sub hl [] rfl)
  have h := hf
  unfold c_X8_take at h
  refine W_cnt (c2 := kK cs - kK cs) (n2 := kM cs - kM cs) (by omega) (by omega) ?_
  refine lv_aload_n hx hb dX8_take_0 rfl (lv_at hl 0 rfl) ?_
  refine lv_iload_n hx hb dX8_take_1 rfl (lv_at hl 2 rfl) ?_
  replace h := ob h; obtain ⟨w_15, hw_15, h⟩ := h
  replace h := ob h; obtain ⟨cs_14, hv_14, h⟩ := h
  obtain ⟨qk_14, qm_14⟩ := mo_c_X8_reserve F cs x0 x2 cs_14 hv_14
  obtain ⟨k9_14, m9_14⟩ := mo_c_X8_take_b5 F cs_14 x0 x1 x2 cs9 h
  refine cavV (As := [.int x2]) hx hb hml hts hown hK hP hD hS hG hA (by omega) (by omega) hZ (X := 9) (by decide) rfl (ckE_some hw_15) (sa_X8_reserve l dC dI cB cI cJ cZ cS cO b K V fz F cs x0 x2 cs_14 hv_14) (cw_X8_X8_reserve hts (fr := 3) (Nat.le_of_ble_eq_true rfl) (Nat.le_of_ble_eq_true rfl)) rfl hl.1 (Nat.le_of_ble_eq_true rfl) ⟨by show kK cs - kK cs + (kK cs_14 - kK cs) ≤ kK cs9 - kK cs; omega, by show kM cs - kM cs + (kM cs_14 - kM cs) ≤ kM cs9 - kM cs; omega⟩ dX8_take_2 (fun H locs hP hD hG hgz hS => ?_)
  refine W_cnt (c2 := kK cs_14 - kK cs) (n2 := kM cs_14 - kM cs) (by omega) (by omega) ?_
  exact B_5 cs_14 x0 x1 x2 h (by omega) (by omega) _ _ _ _ hP hD hG (by omega) hS (lv_sub hl [0, 1, 2] rfl)
