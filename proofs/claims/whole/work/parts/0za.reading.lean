/-! the class, mirrored: what makes cells -/
theorem dX3_init_0 : decode cX3_init 0 = .ok (.aload_n 0, 1) := by decide +kernel
theorem dX3_init_1 : decode cX3_init 1 = .ok (.invokespecial 1, 3) := by decide +kernel
theorem dX3_init_4 : decode cX3_init 4 = .ok (.aload_n 0, 1) := by decide +kernel
theorem dX3_init_5 : decode cX3_init 5 = .ok (.new 7, 3) := by decide +kernel
theorem dX3_init_8 : decode cX3_init 8 = .ok (.dup, 1) := by decide +kernel
theorem dX3_init_9 : decode cX3_init 9 = .ok (.invokespecial 9, 3) := by decide +kernel
theorem dX3_init_12 : decode cX3_init 12 = .ok (.putfield 10, 3) := by decide +kernel
theorem dX3_init_15 : decode cX3_init 15 = .ok (.aload_n 0, 1) := by decide +kernel
theorem dX3_init_16 : decode cX3_init 16 = .ok (.getfield 10, 3) := by decide +kernel
theorem dX3_init_19 : decode cX3_init 19 = .ok (.aload_n 1, 1) := by decide +kernel
theorem dX3_init_20 : decode cX3_init 20 = .ok (.invokevirtual 16, 3) := by decide +kernel
theorem dX3_init_23 : decode cX3_init 23 = .ok (.pop, 1) := by decide +kernel
theorem dX3_init_24 : decode cX3_init 24 = .ok (.aload_n 0, 1) := by decide +kernel
theorem dX3_init_25 : decode cX3_init 25 = .ok (.aload_n 1, 1) := by decide +kernel
theorem dX3_init_26 : decode cX3_init 26 = .ok (.getfield 20, 3) := by decide +kernel
theorem dX3_init_29 : decode cX3_init 29 = .ok (.putfield 26, 3) := by decide +kernel
theorem dX3_init_32 : decode cX3_init 32 = .ok (.return_, 1) := by decide +kernel
def c_X3_init_b24 (F : Nat) (cs1 : CS) (u0 : Nat) (u1 : Nat) : Option CS := Option.bind (gR cs1 6 194 u1) fun v_1 => Option.bind (pR cs1 4 129 u0 v_1) fun cs_2 => some cs_2
def c_X3_init (F : Nat) (cs : CS) (x0 : Nat) (x1 : Nat) : Option CS := Option.bind (nwL cs x0 x1) fun cs_3 => c_X3_init_b24 F cs_3 x0 x1
theorem cw_X9_X3_init {R : Room} {s : State} {args : Array Value} {y0 : MethodName} {c0 : ByteArray} {n0 : Nat} {r0 : Option FieldType} (hts : ∀ w ∈ wsOf y0 c0 n0 r0, w.before args s = true) {fr mc ms : Nat} (h1 : fr + 1 ≤ R.frames) (h2 : 8 + (2 + 11) + 60 * fr ≤ R.locals) : CallB R s args RX9 41 yX3_init cX3_init 2 none (wsOf yX3_init cX3_init 2 none) ({ frames := fr, cells := mc, slots := ms, locals := 60 * fr } : Room) mc ms 1 ∧ yX3_init.name = "<init>" ∧ (Cond.instanceMethod yX3_init).before args s = true := cwI 1 hts (gd_all (in_I kc_X3_init)) rfl rfl rfl (hts _ (List.mem_cons_of_mem _ kw_194)) (hts _ (List.mem_cons_of_mem _ kw_736)) (hts _ (List.mem_cons_of_mem _ kw_737)) rfl (by decide +kernel) ⟨h1, h2⟩
theorem mo_c_X3_init_b24 (F : Nat) (cs1 : CS) (u0 : Nat) (u1 : Nat) (cs9 : CS) (h : c_X3_init_b24 F cs1 u0 u1 = some cs9) : kK cs1 ≤ kK cs9 ∧ kM cs1 ≤ kM cs9 := by
  unfold c_X3_init_b24 at h
  replace h := ob h; obtain ⟨v_3, hv_3, h⟩ := h
  replace h := ob h; obtain ⟨cs_4, hv_4, h⟩ := h
  obtain ⟨qk_4, qm_4⟩ := pR_k hv_4
  have h9 := Option.some.inj h
  have k9 := congrArg kK h9; have m9 := congrArg kM h9; exact ⟨by omega, by omega⟩
theorem mo_c_X3_init (F : Nat) (cs : CS) (x0 : Nat) (x1 : Nat) (cs9 : CS) (h : c_X3_init F cs x0 x1 = some cs9) : kK cs ≤ kK cs9 ∧ kM cs ≤ kM cs9 := by
  unfold c_X3_init at h
  replace h := ob h; obtain ⟨cs_3, hv_3, h⟩ := h
  obtain ⟨qk_3, qm_3⟩ := nwL_k hv_3
  obtain ⟨k9, m9⟩ := mo_c_X3_init_b24 F cs_3 x0 x1 cs9 h
  exact ⟨by omega, by omega⟩
set_option maxHeartbeats 4000000 in
set_option maxRecDepth 100000 in
theorem sa_X3_init (l : Launch) (dC : Nat → ClassId) (dI : Nat → Nat → Nat) (cB cI cJ cZ cS cO : ClassId) (b : Nat) (K V : Nat → Nat) (fz : Value) (F : Nat) (cs : CS) (x0 : Nat) (x1 : Nat) (cs9 : CS) (hf : c_X3_init F cs x0 x1 = some cs9) : oaV l dC dI cB cI cJ cZ cS cO b K V fz yX3_init (wsOf yX3_init cX3_init 2 none) (8) [.ref (b + x0), .ref (b + x1)] cs cs9 := by
  obtain ⟨kb9, mb9⟩ := mo_c_X3_init F cs x0 x1 cs9 hf
  refine ⟨⟨kb9, mb9⟩, ?_⟩
  refine Met.ofW (cc := cX3_init) (maxL := 2) (ret := none) (by decide) rfl ?_
  intro p e s m args below meth c s₁ B hml hv
  obtain ⟨rfl, hsz, hP, hK, hD0, hZ⟩ := hv
  have hx := B.exec
  have hb := B.bytes
  have hr := B.returns
  have hts := atoms_spec (ws := (wsOf yX3_init cX3_init 2 none)) B.pre
  have hown : s.vm.findClass RX3 = some m.cls := findClass_of_methodNamed B.named
  have hin : meth.name = "<init>" := (name_of_methodNamed B.named B.method).1
  have hlocks := B.notSynchronized
  have hD := hD0.self (sz := b + kK cs)
  generalize hAe : va_A (cW cB cI cJ cZ cS cO b cs) (b + kK cs) = A at hD hZ ⊢
  have hA : ∀ q : Nat, s.heap.size ≤ q → A q := fun q h => by rw [← hAe]; exact Or.inr (by omega)
  have hS : va_S A s.heap s.heap [] := va_S.rf
  have hG : va_S A s.heap s.heap [] := va_S.rf
  have hgz : s.heap.size = b + kK cs := hsz
  have hl := lv_entry ([.ref (b + x0), .ref (b + x1)]) (n := 2) (Nat.le_of_ble_eq_true rfl)
  rw [lg_entry_eq]
  generalize (lg_sl ([.ref (b + x0), .ref (b + x1)]) ++ List.replicate (2 - (lg_sl ([.ref (b + x0), .ref (b + x1)])).length) Slot.unset).toArray = ls at hl ⊢
  have hl : lv_has ls 2 [(0, .ref (b + x0)), (1, .ref (b + x1))] := hl
  have B_24 : ∀ (cs1 : CS) (u0 : Nat) (u1 : Nat), c_X3_init_b24 F cs1 u0 u1 = some cs9 → kK cs ≤ kK cs1 → kM cs ≤ kM cs1 → ∀ (Gh H : Heap) (locs : List Loc) (ls : Array Slot), va_P (dC, dI) vwCl (cW cB cI cJ cZ cS cO b cs1) H → va_D A (cW cB cI cJ cZ cS cO b cs1) → va_S A s.heap Gh [] → Gh.size = b + kK cs1 → va_S A Gh H locs → lv_has ls 2 [(0, .ref (b + u0)), (1, .ref (b + u1))] → W p l e (headSpec (wsOf yX3_init cX3_init 2 none) ({ frames := 8, cells := kK cs9 - kK cs, slots := kM cs9 - kM cs, locals := 60 * (8) } : Room)).room s m ([.ref (b + x0), .ref (b + x1)] : List Value).toArray below meth c H locs (kK cs1 - kK cs) (kM cs1 - kM cs) (MQ below (va_Qv (fun (_ : Unit) => True) (fun _ t_ => va_P (dC, dI) vwCl (cW cB cI cJ cZ cS cO b cs9) t_.heap ∧ va_D A (cW cB cI cJ cZ cS cO b cs9) ∧ b + kK cs9 ≤ t_.heap.size) A) ([.ref (b + x0), .ref (b + x1)] : List Value).toArray s (kK cs9 - kK cs) (kM cs9 - kM cs) A) (F0 m 24 ls []) := by
    intro cs1 u0 u1 h hmk hmm Gh H locs ls hP hD hG hgz hS hl
    obtain ⟨kb9, mb9⟩ := mo_c_X3_init_b24 F cs1 u0 u1 cs9 h
    unfold c_X3_init_b24 at h
    refine lv_aload_n hx hb dX3_init_24 rfl (lv_at hl 0 rfl) ?_
    refine lv_aload_n hx hb dX3_init_25 rfl (lv_at hl 1 rfl) ?_
    replace h := ob h; obtain ⟨v_1, hv_1, h⟩ := h
    refine fg_X3_20 hx hb hts hown hK hP hv_1 dX3_init_26 ?_
    replace h := ob h; obtain ⟨cs_2, hv_2, h⟩ := h
    obtain ⟨qk_2, qm_2⟩ := pR_k hv_2
    refine fp_X3_26 (v := v_1) hx hb hts hown hK hP hD hS hin hv_2 dX3_init_29 (fun H locs hP hD hS => ?_)
    have e1 := Option.some.inj h
    rw [e1] at hP hD
    have e3 := congrArg kK e1
    have e4 := congrArg kM e1
    refine W_cnt (c2 := kK cs9 - kK cs) (n2 := kM cs9 - kM cs) (by omega) (by omega) ?_
    exact W.vret hx hb hr (fun t_ ht hW => ⟨⟨(), rfl, trivial, by rw [ht]; exact hP, hD, by rw [ht]; have := hS.1; omega⟩, (hG.comp hS).F ht⟩) (hG.comp hS).2.2 dX3_init_32
  have h := hf
  unfold c_X3_init at h
  refine W_cnt (c2 := kK cs - kK cs) (n2 := kM cs - kM cs) (by omega) (by omega) ?_
  refine lv_aload_n hx hb dX3_init_0 rfl (lv_at hl 0 rfl) ?_
  refine W.objInit hx hb hown (hts _ (List.mem_cons_of_mem _ kw_739)) (hts _ (List.mem_cons_of_mem _ kw_214)) (hts _ (List.mem_cons_of_mem _ kc_objectInit)) rfl (by rw [hml]; exact hl.1) rfl dX3_init_1 (Nat.le_of_ble_eq_true rfl) (Nat.le_of_ble_eq_true rfl) ?_
  refine W.eq (g2 := F0 m 4 ls []) rfl ?_
  refine lv_aload_n hx hb dX3_init_4 rfl (lv_at hl 0 rfl) ?_
  replace h := ob h; obtain ⟨cs_3, hv_3, h⟩ := h
  obtain ⟨qk_3, qm_3⟩ := nwL_k hv_3
  obtain ⟨k9_3, m9_3⟩ := mo_c_X3_init_b24 F cs_3 x0 x1 cs9 h
  refine qList_X3 (p0 := 0) (p1 := 1) hx hb hml hts hown hK hP hD hS hG hA (by omega) (by omega) hZ hin ⟨by show kK cs - kK cs + 2 ≤ kK cs9 - kK cs; omega, by show kM cs - kM cs + 13 ≤ kM cs9 - kM cs; omega⟩ hv_3 hl rfl rfl (Nat.le_of_ble_eq_true rfl) (Nat.le_of_ble_eq_true rfl) (Nat.le_of_ble_eq_true rfl) dX3_init_5 dX3_init_8 dX3_init_9 dX3_init_12 dX3_init_15 dX3_init_16 dX3_init_19 dX3_init_20 dX3_init_23 (fun H locs hP hD hG hgz hS => ?_)
  refine W_cnt (c2 := kK cs_3 - kK cs) (n2 := kM cs_3 - kM cs) (by omega) (by omega) ?_
  exact B_24 cs_3 x0 x1 h (by omega) (by omega) _ _ _ _ hP hD hG (by omega) hS (lv_sub hl [0, 1] rfl)
theorem dX9_init_0 : decode cX9_init 0 = .ok (.aload_n 0, 1) := by decide +kernel
theorem dX9_init_1 : decode cX9_init 1 = .ok (.invokespecial 3, 3) := by decide +kernel
theorem dX9_init_4 : decode cX9_init 4 = .ok (.aload_n 0, 1) := by decide +kernel
theorem dX9_init_5 : decode cX9_init 5 = .ok (.aload_n 1, 1) := by decide +kernel
theorem dX9_init_6 : decode cX9_init 6 = .ok (.putfield 9, 3) := by decide +kernel
theorem dX9_init_9 : decode cX9_init 9 = .ok (.aload_n 0, 1) := by decide +kernel
theorem dX9_init_10 : decode cX9_init 10 = .ok (.new 15, 3) := by decide +kernel
theorem dX9_init_13 : decode cX9_init 13 = .ok (.dup, 1) := by decide +kernel
theorem dX9_init_14 : decode cX9_init 14 = .ok (.bipush 120, 2) := by decide +kernel
theorem dX9_init_16 : decode cX9_init 16 = .ok (.iload_n 2, 1) := by decide +kernel
theorem dX9_init_17 : decode cX9_init 17 = .ok (.invokestatic 17, 3) := by decide +kernel
theorem dX9_init_20 : decode cX9_init 20 = .ok (.invokespecial 23, 3) := by decide +kernel
theorem dX9_init_23 : decode cX9_init 23 = .ok (.putfield 26, 3) := by decide +kernel
theorem dX9_init_26 : decode cX9_init 26 = .ok (.aload_n 0, 1) := by decide +kernel
theorem dX9_init_27 : decode cX9_init 27 = .ok (.iconst 3, 1) := by decide +kernel
theorem dX9_init_28 : decode cX9_init 28 = .ok (.anewarray 30, 3) := by decide +kernel
theorem dX9_init_31 : decode cX9_init 31 = .ok (.putfield 32, 3) := by decide +kernel
theorem dX9_init_34 : decode cX9_init 34 = .ok (.aload_n 0, 1) := by decide +kernel
theorem dX9_init_35 : decode cX9_init 35 = .ok (.new 36, 3) := by decide +kernel
theorem dX9_init_38 : decode cX9_init 38 = .ok (.dup, 1) := by decide +kernel
theorem dX9_init_39 : decode cX9_init 39 = .ok (.new 38, 3) := by decide +kernel
theorem dX9_init_42 : decode cX9_init 42 = .ok (.dup, 1) := by decide +kernel
theorem dX9_init_43 : decode cX9_init 43 = .ok (.invokespecial 40, 3) := by decide +kernel
theorem dX9_init_46 : decode cX9_init 46 = .ok (.invokespecial 41, 3) := by decide +kernel
theorem dX9_init_49 : decode cX9_init 49 = .ok (.putfield 44, 3) := by decide +kernel
theorem dX9_init_52 : decode cX9_init 52 = .ok (.return_, 1) := by decide +kernel
def c_X9_init_b49 (F : Nat) (cs1 : CS) (y0 : Nat) (y1 : Nat) : Option CS := Option.bind (pR cs1 10 323 y1 (some y0)) fun cs_1 => some cs_1
def c_X9_init_b46 (F : Nat) (cs1 : CS) (y0 : Nat) (y1 : Nat) (y2 : Nat) (y3 : Nat) : Option CS := Option.bind (c_X3_init F cs1 y1 y0) fun cs_2 => c_X9_init_b49 F cs_2 y2 y3
def c_X9_init_b42 (F : Nat) (cs1 : CS) (y0 : Nat) (y1 : Nat) (y2 : Nat) (y3 : Nat) : Option CS := Option.bind (c_X5_init F cs1 y0) fun cs_3 => c_X9_init_b46 F cs_3 y0 y1 y2 y3
def c_X9_init_b38 (F : Nat) (cs1 : CS) (y0 : Nat) (y1 : Nat) : Option CS := Option.bind (nwO cs1 6 15) fun cs_4 => c_X9_init_b42 F cs_4 (kK cs1) y0 y0 y1
def c_X9_init_b34 (F : Nat) (cs1 : CS) (u0 : Nat) : Option CS := Option.bind (nwO cs1 4 6) fun cs_5 => c_X9_init_b38 F cs_5 (kK cs1) u0
def c_X9_init_b23 (F : Nat) (cs1 : CS) (u0 : Nat) (y0 : Nat) (y1 : Nat) : Option CS := Option.bind (pR cs1 10 322 y1 (some y0)) fun cs_6 => Option.bind (nwA cs_6 10 326 u0 3) fun cs_7 => c_X9_init_b34 F cs_7 u0
def c_X9_init_b13 (F : Nat) (cs1 : CS) (u0 : Nat) (u2 : Int32) (y0 : Nat) (y1 : Nat) : Option CS := Option.bind (c_X1_init F cs1 y0 (if u2 < 120 then u2 else 120)) fun cs_8 => c_X9_init_b23 F cs_8 u0 y0 y1
def c_X9_init (F : Nat) (cs : CS) (x0 : Nat) (x1 : Nat) (x2 : Int32) : Option CS := Option.bind (pR cs 10 327 x0 (some x1)) fun cs_9 => Option.bind (nwO cs_9 2 13) fun cs_10 => c_X9_init_b13 F cs_10 x0 x2 (kK cs_9) x0
theorem cw_X11_X9_init {R : Room} {s : State} {args : Array Value} {y0 : MethodName} {c0 : ByteArray} {n0 : Nat} {r0 : Option FieldType} (hts : ∀ w ∈ wsOf y0 c0 n0 r0, w.before args s = true) {fr mc ms : Nat} (h1 : fr + 1 ≤ R.frames) (h2 : 8 + (3 + 11) + 60 * fr ≤ R.locals) : CallB R s args RX11 76 yX9_init cX9_init 3 none (wsOf yX9_init cX9_init 3 none) ({ frames := fr, cells := mc, slots := ms, locals := 60 * fr } : Room) mc ms 2 ∧ yX9_init.name = "<init>" ∧ (Cond.instanceMethod yX9_init).before args s = true := cwI 2 hts (gd_all (in_I kc_X9_init)) rfl rfl rfl (hts _ (List.mem_cons_of_mem _ kw_193)) (hts _ (List.mem_cons_of_mem _ kw_605)) (hts _ (List.mem_cons_of_mem _ kw_606)) rfl (by decide +kernel) ⟨h1, h2⟩
theorem mo_c_X9_init_b49 (F : Nat) (cs1 : CS) (y0 : Nat) (y1 : Nat) (cs9 : CS) (h : c_X9_init_b49 F cs1 y0 y1 = some cs9) : kK cs1 ≤ kK cs9 ∧ kM cs1 ≤ kM cs9 := by
  unfold c_X9_init_b49 at h
  replace h := ob h; obtain ⟨cs_9, hv_9, h⟩ := h
  obtain ⟨qk_9, qm_9⟩ := pR_k hv_9
  have h9 := Option.some.inj h
  have k9 := congrArg kK h9; have m9 := congrArg kM h9; exact ⟨by omega, by omega⟩
theorem mo_c_X9_init_b46 (F : Nat) (cs1 : CS) (y0 : Nat) (y1 : Nat) (y2 : Nat) (y3 : Nat) (cs9 : CS) (h : c_X9_init_b46 F cs1 y0 y1 y2 y3 = some cs9) : kK cs1 ≤ kK cs9 ∧ kM cs1 ≤ kM cs9 := by
  unfold c_X9_init_b46 at h
  replace h := ob h; obtain ⟨cs_9, hv_9, h⟩ := h
  obtain ⟨qk_9, qm_9⟩ := mo_c_X3_init F cs1 y1 y0 cs_9 hv_9
  obtain ⟨k9, m9⟩ := mo_c_X9_init_b49 F cs_9 y2 y3 cs9 h
  exact ⟨by omega, by omega⟩
theorem mo_c_X9_init_b42 (F : Nat) (cs1 : CS) (y0 : Nat) (y1 : Nat) (y2 : Nat) (y3 : Nat) (cs9 : CS) (h : c_X9_init_b42 F cs1 y0 y1 y2 y3 = some cs9) : kK cs1 ≤ kK cs9 ∧ kM cs1 ≤ kM cs9 := by
  unfold c_X9_init_b42 at h
  replace h := ob h; obtain ⟨cs_9, hv_9, h⟩ := h
  obtain ⟨qk_9, qm_9⟩ := mo_c_X5_init F cs1 y0 cs_9 hv_9
  obtain ⟨k9, m9⟩ := mo_c_X9_init_b46 F cs_9 y0 y1 y2 y3 cs9 h
  exact ⟨by omega, by omega⟩
theorem mo_c_X9_init_b38 (F : Nat) (cs1 : CS) (y0 : Nat) (y1 : Nat) (cs9 : CS) (h : c_X9_init_b38 F cs1 y0 y1 = some cs9) : kK cs1 ≤ kK cs9 ∧ kM cs1 ≤ kM cs9 := by
  unfold c_X9_init_b38 at h
  replace h := ob h; obtain ⟨cs_9, hv_9, h⟩ := h
  obtain ⟨qk_9, qm_9⟩ := nwO_k hv_9
  obtain ⟨k9, m9⟩ := mo_c_X9_init_b42 F cs_9 (kK cs1) y0 y0 y1 cs9 h
  exact ⟨by omega, by omega⟩
theorem mo_c_X9_init_b34 (F : Nat) (cs1 : CS) (u0 : Nat) (cs9 : CS) (h : c_X9_init_b34 F cs1 u0 = some cs9) : kK cs1 ≤ kK cs9 ∧ kM cs1 ≤ kM cs9 := by
  unfold c_X9_init_b34 at h
  replace h := ob h; obtain ⟨cs_9, hv_9, h⟩ := h
  obtain ⟨qk_9, qm_9⟩ := nwO_k hv_9
  obtain ⟨k9, m9⟩ := mo_c_X9_init_b38 F cs_9 (kK cs1) u0 cs9 h
  exact ⟨by omega, by omega⟩
theorem mo_c_X9_init_b23 (F : Nat) (cs1 : CS) (u0 : Nat) (y0 : Nat) (y1 : Nat) (cs9 : CS) (h : c_X9_init_b23 F cs1 u0 y0 y1 = some cs9) : kK cs1 ≤ kK cs9 ∧ kM cs1 ≤ kM cs9 := by
  unfold c_X9_init_b23 at h
  replace h := ob h; obtain ⟨cs_9, hv_9, h⟩ := h
  obtain ⟨qk_9, qm_9⟩ := pR_k hv_9
  replace h := ob h; obtain ⟨cs_10, hv_10, h⟩ := h
  obtain ⟨qk_10, qm_10⟩ := nwA_k hv_10
  obtain ⟨k9, m9⟩ := mo_c_X9_init_b34 F cs_10 u0 cs9 h
  exact ⟨by omega, by omega⟩
theorem mo_c_X9_init_b13 (F : Nat) (cs1 : CS) (u0 : Nat) (u2 : Int32) (y0 : Nat) (y1 : Nat) (cs9 : CS) (h : c_X9_init_b13 F cs1 u0 u2 y0 y1 = some cs9) : kK cs1 ≤ kK cs9 ∧ kM cs1 ≤ kM cs9 := by
  unfold c_X9_init_b13 at h
  replace h := ob h; obtain ⟨cs_9, hv_9, h⟩ := h
  obtain ⟨qk_9, qm_9⟩ := mo_c_X1_init F cs1 y0 (if u2 < 120 then u2 else 120) cs_9 hv_9
  obtain ⟨k9, m9⟩ := mo_c_X9_init_b23 F cs_9 u0 y0 y1 cs9 h
  exact ⟨by omega, by omega⟩
theorem mo_c_X9_init (F : Nat) (cs : CS) (x0 : Nat) (x1 : Nat) (x2 : Int32) (cs9 : CS) (h : c_X9_init F cs x0 x1 x2 = some cs9) : kK cs ≤ kK cs9 ∧ kM cs ≤ kM cs9 := by
  unfold c_X9_init at h
  replace h := ob h; obtain ⟨cs_9, hv_9, h⟩ := h
  obtain ⟨qk_9, qm_9⟩ := pR_k hv_9
  replace h := ob h; obtain ⟨cs_10, hv_10, h⟩ := h
  obtain ⟨qk_10, qm_10⟩ := nwO_k hv_10
  obtain ⟨k9, m9⟩ := mo_c_X9_init_b13 F cs_10 x0 x2 (kK cs_9) x0 cs9 h
  exact ⟨by omega, by omega⟩
set_option maxHeartbeats 4000000 in
set_option maxRecDepth 100000 in
theorem sa_X9_init (l : Launch) (dC : Nat → ClassId) (dI : Nat → Nat → Nat) (cB cI cJ cZ cS cO : ClassId) (b : Nat) (K V : Nat → Nat) (fz : Value) (F : Nat) (cs : CS) (x0 : Nat) (x1 : Nat) (x2 : Int32) (cs9 : CS) (hf : c_X9_init F cs x0 x1 x2 = some cs9) : oaV l dC dI cB cI cJ cZ cS cO b K V fz yX9_init (wsOf yX9_init cX9_init 3 none) (9) [.ref (b + x0), .ref (b + x1), .int x2] cs cs9 := by
  obtain ⟨kb9, mb9⟩ := mo_c_X9_init F cs x0 x1 x2 cs9 hf
  refine ⟨⟨kb9, mb9⟩, ?_⟩
  refine Met.ofW (cc := cX9_init) (maxL := 3) (ret := none) (by decide) rfl ?_
  intro p e s m args below meth c s₁ B hml hv
  obtain ⟨rfl, hsz, hP, hK, hD0, hZ⟩ := hv
  have hx := B.exec
  have hb := B.bytes
  have hr := B.returns
  have hts := atoms_spec (ws := (wsOf yX9_init cX9_init 3 none)) B.pre
  have hown : s.vm.findClass RX9 = some m.cls := findClass_of_methodNamed B.named
  have hin : meth.name = "<init>" := (name_of_methodNamed B.named B.method).1
  have hlocks := B.notSynchronized
  have hD := hD0.self (sz := b + kK cs)
  generalize hAe : va_A (cW cB cI cJ cZ cS cO b cs) (b + kK cs) = A at hD hZ ⊢
  have hA : ∀ q : Nat, s.heap.size ≤ q → A q := fun q h => by rw [← hAe]; exact Or.inr (by omega)
  have hS : va_S A s.heap s.heap [] := va_S.rf
  have hG : va_S A s.heap s.heap [] := va_S.rf
  have hgz : s.heap.size = b + kK cs := hsz
  have hl := lv_entry ([.ref (b + x0), .ref (b + x1), .int x2]) (n := 3) (Nat.le_of_ble_eq_true rfl)
  rw [lg_entry_eq]
  generalize (lg_sl ([.ref (b + x0), .ref (b + x1), .int x2]) ++ List.replicate (3 - (lg_sl ([.ref (b + x0), .ref (b + x1), .int x2])).length) Slot.unset).toArray = ls at hl ⊢
  have hl : lv_has ls 3 [(0, .ref (b + x0)), (1, .ref (b + x1)), (2, .int x2)] := hl
  have B_49 : ∀ (cs1 : CS) (y0 : Nat) (y1 : Nat), c_X9_init_b49 F cs1 y0 y1 = some cs9 → kK cs ≤ kK cs1 → kM cs ≤ kM cs1 → ∀ (Gh H : Heap) (locs : List Loc) (ls : Array Slot), va_P (dC, dI) vwCl (cW cB cI cJ cZ cS cO b cs1) H → va_D A (cW cB cI cJ cZ cS cO b cs1) → va_S A s.heap Gh [] → Gh.size = b + kK cs1 → va_S A Gh H locs → lv_has ls 3 [] → W p l e (headSpec (wsOf yX9_init cX9_init 3 none) ({ frames := 9, cells := kK cs9 - kK cs, slots := kM cs9 - kM cs, locals := 60 * (9) } : Room)).room s m ([.ref (b + x0), .ref (b + x1), .int x2] : List Value).toArray below meth c H locs (kK cs1 - kK cs) (kM cs1 - kM cs) (MQ below (va_Qv (fun (_ : Unit) => True) (fun _ t_ => va_P (dC, dI) vwCl (cW cB cI cJ cZ cS cO b cs9) t_.heap ∧ va_D A (cW cB cI cJ cZ cS cO b cs9) ∧ b + kK cs9 ≤ t_.heap.size) A) ([.ref (b + x0), .ref (b + x1), .int x2] : List Value).toArray s (kK cs9 - kK cs) (kM cs9 - kM cs) A) (F0 m 49 ls [.ref (b + y0), .ref (b + y1)]) := by
    intro cs1 y0 y1 h hmk hmm Gh H locs ls hP hD hG hgz hS hl
    obtain ⟨kb9, mb9⟩ := mo_c_X9_init_b49 F cs1 y0 y1 cs9 h
    unfold c_X9_init_b49 at h
    replace h := ob h; obtain ⟨cs_1, hv_1, h⟩ := h
    obtain ⟨qk_1, qm_1⟩ := pR_k hv_1
    refine fp_X9_44 (v := (some y0)) hx hb hts hown hK hP hD hS hv_1 dX9_init_49 (fun H locs hP hD hS => ?_)
    have e1 := Option.some.inj h
    rw [e1] at hP hD
    have e3 := congrArg kK e1
    have e4 := congrArg kM e1
    refine W_cnt (c2 := kK cs9 - kK cs) (n2 := kM cs9 - kM cs) (by omega) (by omega) ?_
    exact W.vret hx hb hr (fun t_ ht hW => ⟨⟨(), rfl, trivial, by rw [ht]; exact hP, hD, by rw [ht]; have := hS.1; omega⟩, (hG.comp hS).F ht⟩) (hG.comp hS).2.2 dX9_init_52
  have B_46 : ∀ (cs1 : CS) (y0 : Nat) (y1 : Nat) (y2 : Nat) (y3 : Nat), c_X9_init_b46 F cs1 y0 y1 y2 y3 = some cs9 → kK cs ≤ kK cs1 → kM cs ≤ kM cs1 → ∀ (Gh H : Heap) (locs : List Loc) (ls : Array Slot), va_P (dC, dI) vwCl (cW cB cI cJ cZ cS cO b cs1) H → va_D A (cW cB cI cJ cZ cS cO b cs1) → va_S A s.heap Gh [] → Gh.size = b + kK cs1 → va_S A Gh H locs → lv_has ls 3 [] → W p l e (headSpec (wsOf yX9_init cX9_init 3 none) ({ frames := 9, cells := kK cs9 - kK cs, slots := kM cs9 - kM cs, locals := 60 * (9) } : Room)).room s m ([.ref (b + x0), .ref (b + x1), .int x2] : List Value).toArray below meth c H locs (kK cs1 - kK cs) (kM cs1 - kM cs) (MQ below (va_Qv (fun (_ : Unit) => True) (fun _ t_ => va_P (dC, dI) vwCl (cW cB cI cJ cZ cS cO b cs9) t_.heap ∧ va_D A (cW cB cI cJ cZ cS cO b cs9) ∧ b + kK cs9 ≤ t_.heap.size) A) ([.ref (b + x0), .ref (b + x1), .int x2] : List Value).toArray s (kK cs9 - kK cs) (kM cs9 - kM cs) A) (F0 m 46 ls [.ref (b + y0), .ref (b + y1), .ref (b + y2), .ref (b + y3)]) := by
    intro cs1 y0 y1 y2 y3 h hmk hmm Gh H locs ls hP hD hG hgz hS hl
    obtain ⟨kb9, mb9⟩ := mo_c_X9_init_b46 F cs1 y0 y1 y2 y3 cs9 h
    unfold c_X9_init_b46 at h
    replace h := ob h; obtain ⟨cs_2, hv_2, h⟩ := h
    obtain ⟨qk_2, qm_2⟩ := mo_c_X3_init F cs1 y1 y0 cs_2 hv_2
    obtain ⟨k9_2, m9_2⟩ := mo_c_X9_init_b49 F cs_2 y2 y3 cs9 h
    refine caiV (As := [.ref (b + y0)]) hx hb hml hts hown hK hP hD hS hG hA (by omega) (by omega) hZ (sa_X3_init l dC dI cB cI cJ cZ cS cO b K V fz F cs1 y1 y0 cs_2 hv_2) (cw_X9_X3_init hts (fr := 8) (Nat.le_of_ble_eq_true rfl) (Nat.le_of_ble_eq_true rfl)) rfl hl.1 (Nat.le_of_ble_eq_true rfl) ⟨by show kK cs1 - kK cs + (kK cs_2 - kK cs1) ≤ kK cs9 - kK cs; omega, by show kM cs1 - kM cs + (kM cs_2 - kM cs1) ≤ kM cs9 - kM cs; omega⟩ dX9_init_46 (fun H locs hP hD hG hgz hS => ?_)
    refine W_cnt (c2 := kK cs_2 - kK cs) (n2 := kM cs_2 - kM cs) (by omega) (by omega) ?_
    exact B_49 cs_2 y2 y3 h (by omega) (by omega) _ _ _ _ hP hD hG (by omega) hS (lv_sub hl [] rfl)
  have B_42 : ∀ (cs1 : CS) (y0 : Nat) (y1 : Nat) (y2 : Nat) (y3 : Nat), c_X9_init_b42 F cs1 y0 y1 y2 y3 = some cs9 → kK cs ≤ kK cs1 → kM cs ≤ kM cs1 → ∀ (Gh H : Heap) (locs : List Loc) (ls : Array Slot), va_P (dC, dI) vwCl (cW cB cI cJ cZ cS cO b cs1) H → va_D A (cW cB cI cJ cZ cS cO b cs1) → va_S A s.heap Gh [] → Gh.size = b + kK cs1 → va_S A Gh H locs → lv_has ls 3 [] → W p l e (headSpec (wsOf yX9_init cX9_init 3 none) ({ frames := 9, cells := kK cs9 - kK cs, slots := kM cs9 - kM cs, locals := 60 * (9) } : Room)).room s m ([.ref (b + x0), .ref (b + x1), .int x2] : List Value).toArray below meth c H locs (kK cs1 - kK cs) (kM cs1 - kM cs) (MQ below (va_Qv (fun (_ : Unit) => True) (fun _ t_ => va_P (dC, dI) vwCl (cW cB cI cJ cZ cS cO b cs9) t_.heap ∧ va_D A (cW cB cI cJ cZ cS cO b cs9) ∧ b + kK cs9 ≤ t_.heap.size) A) ([.ref (b + x0), .ref (b + x1), .int x2] : List Value).toArray s (kK cs9 - kK cs) (kM cs9 - kM cs) A) (F0 m 42 ls [.ref (b + y0), .ref (b + y1), .ref (b + y2), .ref (b + y3)]) := by
    intro cs1 y0 y1 y2 y3 h hmk hmm Gh H locs ls hP hD hG hgz hS hl
    obtain ⟨kb9, mb9⟩ := mo_c_X9_init_b42 F cs1 y0 y1 y2 y3 cs9 h
    unfold c_X9_init_b42 at h
    refine lv_dup hx hb dX9_init_42 rfl ?_
    replace h := ob h; obtain ⟨cs_3, hv_3, h⟩ := h
    obtain ⟨qk_3, qm_3⟩ := mo_c_X5_init F cs1 y0 cs_3 hv_3
    obtain ⟨k9_3, m9_3⟩ := mo_c_X9_init_b46 F cs_3 y0 y1 y2 y3 cs9 h
    refine camV (As := []) hx hb hml hts hown hK hP hD hS hG hA (by omega) (by omega) hZ (sa_X5_init l dC dI cB cI cJ cZ cS cO b K V fz F cs1 y0 cs_3 hv_3) (cw_X9_X5_init hZ hts (fr := 2) (Nat.le_of_ble_eq_true rfl) (Nat.le_of_ble_eq_true rfl)) rfl hl.1 (Nat.le_of_ble_eq_true rfl) ⟨by show kK cs1 - kK cs + (kK cs_3 - kK cs1) ≤ kK cs9 - kK cs; omega, by show kM cs1 - kM cs + (kM cs_3 - kM cs1) ≤ kM cs9 - kM cs; omega⟩ dX9_init_43 (fun H locs hP hD hG hgz hS => ?_)
    refine W_cnt (c2 := kK cs_3 - kK cs) (n2 := kM cs_3 - kM cs) (by omega) (by omega) ?_
    exact B_46 cs_3 y0 y1 y2 y3 h (by omega) (by omega) _ _ _ _ hP hD hG (by omega) hS (lv_sub hl [] rfl)
  have B_38 : ∀ (cs1 : CS) (y0 : Nat) (y1 : Nat), c_X9_init_b38 F cs1 y0 y1 = some cs9 → kK cs ≤ kK cs1 → kM cs ≤ kM cs1 → ∀ (Gh H : Heap) (locs : List Loc) (ls : Array Slot), va_P (dC, dI) vwCl (cW cB cI cJ cZ cS cO b cs1) H → va_D A (cW cB cI cJ cZ cS cO b cs1) → va_S A s.heap Gh [] → Gh.size = b + kK cs1 → va_S A Gh H locs → lv_has ls 3 [] → W p l e (headSpec (wsOf yX9_init cX9_init 3 none) ({ frames := 9, cells := kK cs9 - kK cs, slots := kM cs9 - kM cs, locals := 60 * (9) } : Room)).room s m ([.ref (b + x0), .ref (b + x1), .int x2] : List Value).toArray below meth c H locs (kK cs1 - kK cs) (kM cs1 - kM cs) (MQ below (va_Qv (fun (_ : Unit) => True) (fun _ t_ => va_P (dC, dI) vwCl (cW cB cI cJ cZ cS cO b cs9) t_.heap ∧ va_D A (cW cB cI cJ cZ cS cO b cs9) ∧ b + kK cs9 ≤ t_.heap.size) A) ([.ref (b + x0), .ref (b + x1), .int x2] : List Value).toArray s (kK cs9 - kK cs) (kM cs9 - kM cs) A) (F0 m 38 ls [.ref (b + y0), .ref (b + y1)]) := by
    intro cs1 y0 y1 h hmk hmm Gh H locs ls hP hD hG hgz hS hl
    obtain ⟨kb9, mb9⟩ := mo_c_X9_init_b38 F cs1 y0 y1 cs9 h
    unfold c_X9_init_b38 at h
    refine lv_dup hx hb dX9_init_38 rfl ?_
    replace h := ob h; obtain ⟨cs_4, hv_4, h⟩ := h
    obtain ⟨qk_4, qm_4⟩ := nwO_k hv_4
    obtain ⟨k9_4, m9_4⟩ := mo_c_X9_init_b42 F cs_4 (kK cs1) y0 y0 y1 cs9 h
    refine new_X9_38 hx hb hts hown hK hP hD hS hG hA (by omega) (by omega) ⟨by show kK cs1 - kK cs + 1 ≤ kK cs9 - kK cs; omega, by show kM cs1 - kM cs + 15 ≤ kM cs9 - kM cs; omega⟩ hv_4 dX9_init_39 (fun H locs hP hD hG hgz hS => ?_)
    refine W_cnt (c2 := kK cs_4 - kK cs) (n2 := kM cs_4 - kM cs) (by omega) (by omega) ?_
    exact B_42 cs_4 (kK cs1) y0 y0 y1 h (by omega) (by omega) _ _ _ _ hP hD hG (by omega) hS (lv_sub hl [] rfl)
  have B_34 : ∀ (cs1 : CS) (u0 : Nat), c_X9_init_b34 F cs1 u0 = some cs9 → kK cs ≤ kK cs1 → kM cs ≤ kM cs1 → ∀ (Gh H : Heap) (locs : List Loc) (ls : Array Slot), va_P (dC, dI) vwCl (cW cB cI cJ cZ cS cO b cs1) H → va_D A (cW cB cI cJ cZ cS cO b cs1) → va_S A s.heap Gh [] → Gh.size = b + kK cs1 → va_S A Gh H locs → lv_has ls 3 [(0, .ref (b + u0))] → W p l e (headSpec (wsOf yX9_init cX9_init 3 none) ({ frames := 9, cells := kK cs9 - kK cs, slots := kM cs9 - kM cs, locals := 60 * (9) } : Room)).room s m ([.ref (b + x0), .ref (b + x1), .int x2] : List Value).toArray below meth c H locs (kK cs1 - kK cs) (kM cs1 - kM cs) (MQ below (va_Qv (fun (_ : Unit) => True) (fun _ t_ => va_P (dC, dI) vwCl (cW cB cI cJ cZ cS cO b cs9) t_.heap ∧ va_D A (cW cB cI cJ cZ cS cO b cs9) ∧ b + kK cs9 ≤ t_.heap.size) A) ([.ref (b + x0), .ref (b + x1), .int x2] : List Value).toArray s (kK cs9 - kK cs) (kM cs9 - kM cs) A) (F0 m 34 ls []) := by
    intro cs1 u0 h hmk hmm Gh H locs ls hP hD hG hgz hS hl
    obtain ⟨kb9, mb9⟩ := mo_c_X9_init_b34 F cs1 u0 cs9 h
    unfold c_X9_init_b34 at h
    refine lv_aload_n hx hb dX9_init_34 rfl (lv_at hl 0 rfl) ?_
    replace h := ob h; obtain ⟨cs_5, hv_5, h⟩ := h
    obtain ⟨qk_5, qm_5⟩ := nwO_k hv_5
    obtain ⟨k9_5, m9_5⟩ := mo_c_X9_init_b38 F cs_5 (kK cs1) u0 cs9 h
    refine new_X9_36 hx hb hts hown hK hP hD hS hG hA (by omega) (by omega) ⟨by show kK cs1 - kK cs + 1 ≤ kK cs9 - kK cs; omega, by show kM cs1 - kM cs + 6 ≤ kM cs9 - kM cs; omega⟩ hv_5 dX9_init_35 (fun H locs hP hD hG hgz hS => ?_)
    refine W_cnt (c2 := kK cs_5 - kK cs) (n2 := kM cs_5 - kM cs) (by omega) (by omega) ?_
    exact B_38 cs_5 (kK cs1) u0 h (by omega) (by omega) _ _ _ _ hP hD hG (by omega) hS (lv_sub hl [] rfl)
  have B_23 : ∀ (cs1 : CS) (u0 : Nat) (y0 : Nat) (y1 : Nat), c_X9_init_b23 F cs1 u0 y0 y1 = some cs9 → kK cs ≤ kK cs1 → kM cs ≤ kM cs1 → ∀ (Gh H : Heap) (locs : List Loc) (ls : Array Slot), va_P (dC, dI) vwCl (cW cB cI cJ cZ cS cO b cs1) H → va_D A (cW cB cI cJ cZ cS cO b cs1) → va_S A s.heap Gh [] → Gh.size = b + kK cs1 → va_S A Gh H locs → lv_has ls 3 [(0, .ref (b + u0))] → W p l e (headSpec (wsOf yX9_init cX9_init 3 none) ({ frames := 9, cells := kK cs9 - kK cs, slots := kM cs9 - kM cs, locals := 60 * (9) } : Room)).room s m ([.ref (b + x0), .ref (b + x1), .int x2] : List Value).toArray below meth c H locs (kK cs1 - kK cs) (kM cs1 - kM cs) (MQ below (va_Qv (fun (_ : Unit) => True) (fun _ t_ => va_P (dC, dI) vwCl (cW cB cI cJ cZ cS cO b cs9) t_.heap ∧ va_D A (cW cB cI cJ cZ cS cO b cs9) ∧ b + kK cs9 ≤ t_.heap.size) A) ([.ref (b + x0), .ref (b + x1), .int x2] : List Value).toArray s (kK cs9 - kK cs) (kM cs9 - kM cs) A) (F0 m 23 ls [.ref (b + y0), .ref (b + y1)]) := by
    intro cs1 u0 y0 y1 h hmk hmm Gh H locs ls hP hD hG hgz hS hl
    obtain ⟨kb9, mb9⟩ := mo_c_X9_init_b23 F cs1 u0 y0 y1 cs9 h
    unfold c_X9_init_b23 at h
    replace h := ob h; obtain ⟨cs_6, hv_6, h⟩ := h
    obtain ⟨qk_6, qm_6⟩ := pR_k hv_6
    refine fp_X9_26 (v := (some y0)) hx hb hts hown hK hP hD hS hin hv_6 dX9_init_23 (fun H locs hP hD hS => ?_)
    refine lv_aload_n hx hb dX9_init_26 rfl (lv_at hl 0 rfl) ?_
    refine lv_iconst (v := 3) hx hb dX9_init_27 (by decide) ?_
    replace h := ob h; obtain ⟨cs_7, hv_7, h⟩ := h
    obtain ⟨qk_7, qm_7⟩ := nwA_k hv_7
    obtain ⟨k9_7, m9_7⟩ := mo_c_X9_init_b34 F cs_7 u0 cs9 h
    refine nar_X9_32 hx hb hts hown hK hP hD hS hG hA (by omega) (by omega) hin ⟨by show kK cs1 - kK cs + 1 ≤ kK cs9 - kK cs; omega, by show kM cs1 - kM cs + (3 : Int32).toNatClampNeg ≤ kM cs9 - kM cs; omega⟩ hv_7 (hts _ (List.mem_cons_of_mem _ kw_612)) hZ.aoS dX9_init_28 dX9_init_31 (fun H locs hP hD hG hgz hS => ?_)
    refine W_cnt (c2 := kK cs_7 - kK cs) (n2 := kM cs_7 - kM cs) (by omega) (by omega) ?_
    exact B_34 cs_7 u0 h (by omega) (by omega) _ _ _ _ hP hD hG (by omega) hS (lv_sub hl [0] rfl)
  have B_13 : ∀ (cs1 : CS) (u0 : Nat) (u2 : Int32) (y0 : Nat) (y1 : Nat), c_X9_init_b13 F cs1 u0 u2 y0 y1 = some cs9 → kK cs ≤ kK cs1 → kM cs ≤ kM cs1 → ∀ (Gh H : Heap) (locs : List Loc) (ls : Array Slot), va_P (dC, dI) vwCl (cW cB cI cJ cZ cS cO b cs1) H → va_D A (cW cB cI cJ cZ cS cO b cs1) → va_S A s.heap Gh [] → Gh.size = b + kK cs1 → va_S A Gh H locs → lv_has ls 3 [(0, .ref (b + u0)), (2, .int u2)] → W p l e (headSpec (wsOf yX9_init cX9_init 3 none) ({ frames := 9, cells := kK cs9 - kK cs, slots := kM cs9 - kM cs, locals := 60 * (9) } : Room)).room s m ([.ref (b + x0), .ref (b + x1), .int x2] : List Value).toArray below meth c H locs (kK cs1 - kK cs) (kM cs1 - kM cs) (MQ below (va_Qv (fun (_ : Unit) => True) (fun _ t_ => va_P (dC, dI) vwCl (cW cB cI cJ cZ cS cO b cs9) t_.heap ∧ va_D A (cW cB cI cJ cZ cS cO b cs9) ∧ b + kK cs9 ≤ t_.heap.size) A) ([.ref (b + x0), .ref (b + x1), .int x2] : List Value).toArray s (kK cs9 - kK cs) (kM cs9 - kM cs) A) (F0 m 13 ls [.ref (b + y0), .ref (b + y1)]) := by
    intro cs1 u0 u2 y0 y1 h hmk hmm Gh H locs ls hP hD hG hgz hS hl
    obtain ⟨kb9, mb9⟩ := mo_c_X9_init_b13 F cs1 u0 u2 y0 y1 cs9 h
    unfold c_X9_init_b13 at h
    refine lv_dup hx hb dX9_init_13 rfl ?_
    refine lv_bipush (v := 120) hx hb dX9_init_14 (by decide) ?_
    refine lv_iload_n hx hb dX9_init_16 rfl (lv_at hl 1 rfl) ?_
    refine va_mmin (x := 120) (y := u2) hx hb (hml.trans hl.1.symm) hown (hts _ (List.mem_cons_of_mem _ kw_610)) (hts _ (List.mem_cons_of_mem _ kw_506)) (hts _ (List.mem_cons_of_mem _ kw_190)) (hts _ (List.mem_cons_of_mem _ kc_min)) (Nat.le_of_ble_eq_true rfl) (Nat.le_of_ble_eq_true rfl) (by show kK cs1 - kK cs ≤ kK cs9 - kK cs; omega) (by show kM cs1 - kM cs ≤ kM cs9 - kM cs; omega) dX9_init_17 ?_
    replace h := ob h; obtain ⟨cs_8, hv_8, h⟩ := h
    obtain ⟨qk_8, qm_8⟩ := mo_c_X1_init F cs1 y0 (if u2 < 120 then u2 else 120) cs_8 hv_8
    obtain ⟨k9_8, m9_8⟩ := mo_c_X9_init_b23 F cs_8 u0 y0 y1 cs9 h
    refine caiV (As := [.int (if u2 < 120 then u2 else 120)]) hx hb hml hts hown hK hP hD hS hG hA (by omega) (by omega) hZ (sa_X1_init l dC dI cB cI cJ cZ cS cO b K V fz F cs1 y0 (if u2 < 120 then u2 else 120) cs_8 hv_8) (cw_X9_X1_init hts (fr := 1) (Nat.le_of_ble_eq_true rfl) (Nat.le_of_ble_eq_true rfl)) rfl hl.1 (Nat.le_of_ble_eq_true rfl) ⟨by show kK cs1 - kK cs + (kK cs_8 - kK cs1) ≤ kK cs9 - kK cs; omega, by show kM cs1 - kM cs + (kM cs_8 - kM cs1) ≤ kM cs9 - kM cs; omega⟩ dX9_init_20 (fun H locs hP hD hG hgz hS => ?_)
    refine W_cnt (c2 := kK cs_8 - kK cs) (n2 := kM cs_8 - kM cs) (by omega) (by omega) ?_
    exact B_23 cs_8 u0 y0 y1 h (by omega) (by omega) _ _ _ _ hP hD hG (by omega) hS (lv_sub hl [0] rfl)
  have h := hf
  unfold c_X9_init at h
  refine W_cnt (c2 := kK cs - kK cs) (n2 := kM cs - kM cs) (by omega) (by omega) ?_
  refine lv_aload_n hx hb dX9_init_0 rfl (lv_at hl 0 rfl) ?_
  refine W.objInit hx hb hown (hts _ (List.mem_cons_of_mem _ kw_608)) (hts _ (List.mem_cons_of_mem _ kw_214)) (hts _ (List.mem_cons_of_mem _ kc_objectInit)) rfl (by rw [hml]; exact hl.1) rfl dX9_init_1 (Nat.le_of_ble_eq_true rfl) (Nat.le_of_ble_eq_true rfl) ?_
  refine W.eq (g2 := F0 m 4 ls []) rfl ?_
  refine lv_aload_n hx hb dX9_init_4 rfl (lv_at hl 0 rfl) ?_
  refine lv_aload_n hx hb dX9_init_5 rfl (lv_at hl 1 rfl) ?_
  replace h := ob h; obtain ⟨cs_9, hv_9, h⟩ := h
  obtain ⟨qk_9, qm_9⟩ := pR_k hv_9
  refine fp_X9_9 (v := (some x1)) hx hb hts hown hK hP hD hS hin hv_9 dX9_init_6 (fun H locs hP hD hS => ?_)
  refine lv_aload_n hx hb dX9_init_9 rfl (lv_at hl 0 rfl) ?_
  replace h := ob h; obtain ⟨cs_10, hv_10, h⟩ := h
  obtain ⟨qk_10, qm_10⟩ := nwO_k hv_10
  obtain ⟨k9_10, m9_10⟩ := mo_c_X9_init_b13 F cs_10 x0 x2 (kK cs_9) x0 cs9 h
  refine new_X9_15 hx hb hts hown hK hP hD hS hG hA (by omega) (by omega) ⟨by show kK cs - kK cs + 1 ≤ kK cs9 - kK cs; omega, by show kM cs - kM cs + 13 ≤ kM cs9 - kM cs; omega⟩ hv_10 dX9_init_10 (fun H locs hP hD hG hgz hS => ?_)
  refine W_cnt (c2 := kK cs_10 - kK cs) (n2 := kM cs_10 - kM cs) (by omega) (by omega) ?_
  exact B_13 cs_10 x0 x2 (kK cs_9) x0 h (by omega) (by omega) _ _ _ _ hP hD hG (by omega) hS (lv_sub hl [0, 2] rfl)
abbrev TC_X9_readQuery : Type := (CS → Nat → Option (CS × Nat)) × (CS → Nat → Option (CS × Nat)) × (CS → Nat → Nat → Option CS) × (CS → Nat → Option (CS × Nat))
theorem dX9_readQuery_0 : decode cX9_readQuery 0 = .ok (.new 36, 3) := by decide +kernel
theorem dX9_readQuery_3 : decode cX9_readQuery 3 = .ok (.dup, 1) := by decide +kernel
theorem dX9_readQuery_4 : decode cX9_readQuery 4 = .ok (.aload_n 0, 1) := by decide +kernel
theorem dX9_readQuery_5 : decode cX9_readQuery 5 = .ok (.invokevirtual 129, 3) := by decide +kernel
theorem dX9_readQuery_8 : decode cX9_readQuery 8 = .ok (.invokespecial 41, 3) := by decide +kernel
theorem dX9_readQuery_11 : decode cX9_readQuery 11 = .ok (.astore_n 1, 1) := by decide +kernel
theorem dX9_readQuery_12 : decode cX9_readQuery 12 = .ok (.iconst 0, 1) := by decide +kernel
theorem dX9_readQuery_13 : decode cX9_readQuery 13 = .ok (.istore_n 2, 1) := by decide +kernel
theorem dX9_readQuery_14 : decode cX9_readQuery 14 = .ok (.iload_n 2, 1) := by decide +kernel
theorem dX9_readQuery_15 : decode cX9_readQuery 15 = .ok (.sipush 2000, 3) := by decide +kernel
theorem dX9_readQuery_18 : decode cX9_readQuery 18 = .ok (.if_icmp .ge 101, 3) := by decide +kernel
theorem dX9_readQuery_21 : decode cX9_readQuery 21 = .ok (.aload_n 0, 1) := by decide +kernel
theorem dX9_readQuery_22 : decode cX9_readQuery 22 = .ok (.invokevirtual 114, 3) := by decide +kernel
theorem dX9_readQuery_25 : decode cX9_readQuery 25 = .ok (.invokestatic 133, 3) := by decide +kernel
theorem dX9_readQuery_28 : decode cX9_readQuery 28 = .ok (.ifCond .eq 91, 3) := by decide +kernel
theorem dX9_readQuery_31 : decode cX9_readQuery 31 = .ok (.aload_n 0, 1) := by decide +kernel
theorem dX9_readQuery_32 : decode cX9_readQuery 32 = .ok (.invokevirtual 114, 3) := by decide +kernel
theorem dX9_readQuery_35 : decode cX9_readQuery 35 = .ok (.istore_n 3, 1) := by decide +kernel
theorem dX9_readQuery_36 : decode cX9_readQuery 36 = .ok (.aload_n 0, 1) := by decide +kernel
theorem dX9_readQuery_37 : decode cX9_readQuery 37 = .ok (.invokevirtual 118, 3) := by decide +kernel
theorem dX9_readQuery_40 : decode cX9_readQuery 40 = .ok (.istore 4, 2) := by decide +kernel
theorem dX9_readQuery_42 : decode cX9_readQuery 42 = .ok (.aload_n 0, 1) := by decide +kernel
theorem dX9_readQuery_43 : decode cX9_readQuery 43 = .ok (.dup, 1) := by decide +kernel
theorem dX9_readQuery_44 : decode cX9_readQuery 44 = .ok (.getfield 99, 3) := by decide +kernel
theorem dX9_readQuery_47 : decode cX9_readQuery 47 = .ok (.iconst 1, 1) := by decide +kernel
theorem dX9_readQuery_48 : decode cX9_readQuery 48 = .ok (.iadd, 1) := by decide +kernel
theorem dX9_readQuery_49 : decode cX9_readQuery 49 = .ok (.putfield 99, 3) := by decide +kernel
theorem dX9_readQuery_52 : decode cX9_readQuery 52 = .ok (.iload_n 3, 1) := by decide +kernel
theorem dX9_readQuery_53 : decode cX9_readQuery 53 = .ok (.bipush 10, 2) := by decide +kernel
theorem dX9_readQuery_55 : decode cX9_readQuery 55 = .ok (.if_icmp .ne 16, 3) := by decide +kernel
theorem dX9_readQuery_58 : decode cX9_readQuery 58 = .ok (.aload_n 0, 1) := by decide +kernel
theorem dX9_readQuery_59 : decode cX9_readQuery 59 = .ok (.bipush 11, 2) := by decide +kernel
theorem dX9_readQuery_61 : decode cX9_readQuery 61 = .ok (.invokevirtual 48, 3) := by decide +kernel
theorem dX9_readQuery_64 : decode cX9_readQuery 64 = .ok (.ifCond .eq 7, 3) := by decide +kernel
theorem dX9_readQuery_67 : decode cX9_readQuery 67 = .ok (.iconst 1, 1) := by decide +kernel
theorem dX9_readQuery_68 : decode cX9_readQuery 68 = .ok (.goto 4, 3) := by decide +kernel
theorem dX9_readQuery_71 : decode cX9_readQuery 71 = .ok (.iconst 0, 1) := by decide +kernel
theorem dX9_readQuery_72 : decode cX9_readQuery 72 = .ok (.istore 5, 2) := by decide +kernel
theorem dX9_readQuery_74 : decode cX9_readQuery 74 = .ok (.aload_n 0, 1) := by decide +kernel
theorem dX9_readQuery_75 : decode cX9_readQuery 75 = .ok (.invokevirtual 129, 3) := by decide +kernel
theorem dX9_readQuery_78 : decode cX9_readQuery 78 = .ok (.astore 6, 2) := by decide +kernel
theorem dX9_readQuery_80 : decode cX9_readQuery 80 = .ok (.aload 6, 2) := by decide +kernel
theorem dX9_readQuery_82 : decode cX9_readQuery 82 = .ok (.iload 5, 2) := by decide +kernel
theorem dX9_readQuery_84 : decode cX9_readQuery 84 = .ok (.ifCond .eq 8, 3) := by decide +kernel
theorem dX9_readQuery_87 : decode cX9_readQuery 87 = .ok (.bipush 11, 2) := by decide +kernel
theorem dX9_readQuery_89 : decode cX9_readQuery 89 = .ok (.goto 4, 3) := by decide +kernel
theorem dX9_readQuery_92 : decode cX9_readQuery 92 = .ok (.iload_n 3, 1) := by decide +kernel
theorem dX9_readQuery_93 : decode cX9_readQuery 93 = .ok (.putfield 136, 3) := by decide +kernel
theorem dX9_readQuery_96 : decode cX9_readQuery 96 = .ok (.aload 6, 2) := by decide +kernel
theorem dX9_readQuery_98 : decode cX9_readQuery 98 = .ok (.iload 4, 2) := by decide +kernel
theorem dX9_readQuery_100 : decode cX9_readQuery 100 = .ok (.putfield 139, 3) := by decide +kernel
theorem dX9_readQuery_103 : decode cX9_readQuery 103 = .ok (.aload_n 1, 1) := by decide +kernel
theorem dX9_readQuery_104 : decode cX9_readQuery 104 = .ok (.getfield 142, 3) := by decide +kernel
theorem dX9_readQuery_107 : decode cX9_readQuery 107 = .ok (.aload 6, 2) := by decide +kernel
theorem dX9_readQuery_109 : decode cX9_readQuery 109 = .ok (.invokevirtual 146, 3) := by decide +kernel
theorem dX9_readQuery_112 : decode cX9_readQuery 112 = .ok (.pop, 1) := by decide +kernel
theorem dX9_readQuery_113 : decode cX9_readQuery 113 = .ok (.iinc 2 1, 3) := by decide +kernel
theorem dX9_readQuery_116 : decode cX9_readQuery 116 = .ok (.goto (-102), 3) := by decide +kernel
theorem dX9_readQuery_119 : decode cX9_readQuery 119 = .ok (.aload_n 0, 1) := by decide +kernel
theorem dX9_readQuery_120 : decode cX9_readQuery 120 = .ok (.invokevirtual 114, 3) := by decide +kernel
theorem dX9_readQuery_123 : decode cX9_readQuery 123 = .ok (.bipush 14, 2) := by decide +kernel
theorem dX9_readQuery_125 : decode cX9_readQuery 125 = .ok (.if_icmp .ne 8, 3) := by decide +kernel
theorem dX9_readQuery_128 : decode cX9_readQuery 128 = .ok (.aload_n 0, 1) := by decide +kernel
theorem dX9_readQuery_129 : decode cX9_readQuery 129 = .ok (.aload_n 1, 1) := by decide +kernel
theorem dX9_readQuery_130 : decode cX9_readQuery 130 = .ok (.invokevirtual 152, 3) := by decide +kernel
theorem dX9_readQuery_133 : decode cX9_readQuery 133 = .ok (.aload_n 1, 1) := by decide +kernel
theorem dX9_readQuery_134 : decode cX9_readQuery 134 = .ok (.areturn, 1) := by decide +kernel
def c_X9_readQuery_b133 (F : Nat) (T : TC_X9_readQuery) (cs1 : CS) (u1 : Nat) : Option (CS × Nat) := some (cs1, u1)
def c_X9_readQuery_b119 (F : Nat) (T : TC_X9_readQuery) (cs1 : CS) (u0 : Nat) (u1 : Nat) : Option (CS × Nat) := Option.bind (ckE cs1 10 u0) fun _ => Option.bind (c_X9_kind F cs1 u0) fun v_1 => if v_1 = 14 then (Option.bind (ckE cs1 10 u0) fun _ => Option.bind (c_X9_readOrder F cs1 u0 u1) fun cs_4 => c_X9_readQuery_b133 F T cs_4 u1) else (c_X9_readQuery_b133 F T cs1 u1)
def c_X9_readQuery_b112 (F : Nat) (T : TC_X9_readQuery) (rc14 : CS → Nat → Nat → Int32 → Option (CS × Nat)) (cs1 : CS) (u0 : Nat) (u1 : Nat) (u2 : Int32) (y0 : Int32) : Option (CS × Nat) := rc14 cs1 u0 u1 (u2 + 1)
def c_X9_readQuery_b93 (F : Nat) (T : TC_X9_readQuery) (rc14 : CS → Nat → Nat → Int32 → Option (CS × Nat)) (cs1 : CS) (u0 : Nat) (u1 : Nat) (u2 : Int32) (u4 : Int32) (u6 : Nat) (y0 : Int32) (y1 : Nat) : Option (CS × Nat) := Option.bind (pI cs1 6 204 y1 y0) fun cs_6 => Option.bind (pI cs_6 6 205 u6 u4) fun cs_7 => Option.bind (gR cs_7 4 128 u1) fun v_8 => Option.bind (v_8) fun i_9 => Option.bind (lAd cs_7 i_9 u6) fun cs_10 => c_X9_readQuery_b112 F T rc14 cs_10 u0 u1 u2 1
def c_X9_readQuery_b78 (F : Nat) (T : TC_X9_readQuery) (rc14 : CS → Nat → Nat → Int32 → Option (CS × Nat)) (cs1 : CS) (u0 : Nat) (u1 : Nat) (u2 : Int32) (u3 : Int32) (u4 : Int32) (u5 : Int32) (y0 : Nat) : Option (CS × Nat) := if u5 = 0 then (c_X9_readQuery_b93 F T rc14 cs1 u0 u1 u2 u4 y0 u3 y0) else (c_X9_readQuery_b93 F T rc14 cs1 u0 u1 u2 u4 y0 11 y0)
def c_X9_readQuery_b72 (F : Nat) (T : TC_X9_readQuery) (rc14 : CS → Nat → Nat → Int32 → Option (CS × Nat)) (cs1 : CS) (u0 : Nat) (u1 : Nat) (u2 : Int32) (u3 : Int32) (u4 : Int32) (y0 : Int32) : Option (CS × Nat) := Option.bind (ckE cs1 10 u0) fun _ => Option.bind (T.2.1 cs1 u0) fun z_12 => c_X9_readQuery_b78 F T rc14 z_12.1 u0 u1 u2 u3 u4 y0 z_12.2
def c_X9_readQuery_b71 (F : Nat) (T : TC_X9_readQuery) (rc14 : CS → Nat → Nat → Int32 → Option (CS × Nat)) (cs1 : CS) (u0 : Nat) (u1 : Nat) (u2 : Int32) (u3 : Int32) (u4 : Int32) : Option (CS × Nat) := c_X9_readQuery_b72 F T rc14 cs1 u0 u1 u2 u3 u4 0
def c_X9_readQuery_L14 (F : Nat) (T : TC_X9_readQuery) : Nat → CS → Nat → Nat → Int32 → Option (CS × Nat)
  | 0, _, _, _, _ => none
  | lf_14 + 1, cs1, u0, u1, u2 => if 2000 ≤ u2 then (c_X9_readQuery_b119 F T cs1 u0 u1) else (Option.bind (ckE cs1 10 u0) fun _ => Option.bind (c_X9_kind F cs1 u0) fun v_15 => Option.bind (c_X9_beginsSet F cs1 v_15) fun v_17 => if v_17 = 0 then (c_X9_readQuery_b119 F T cs1 u0 u1) else (Option.bind (ckE cs1 10 u0) fun _ => Option.bind (c_X9_kind F cs1 u0) fun v_19 => Option.bind (ckE cs1 10 u0) fun _ => Option.bind (c_X9_here F cs1 u0) fun v_21 => Option.bind (gI cs1 10 328 u0) fun v_23 => Option.bind (pI cs1 10 328 u0 (v_23 + 1)) fun cs_24 => if v_19 = 10 then (Option.bind (ckE cs_24 10 u0) fun _ => Option.bind (c_X9_accept F cs_24 u0 11) fun z_26 => if z_26.2 = 0 then (c_X9_readQuery_b71 F T (c_X9_readQuery_L14 F T lf_14) z_26.1 u0 u1 u2 v_19 v_21) else (c_X9_readQuery_b72 F T (c_X9_readQuery_L14 F T lf_14) z_26.1 u0 u1 u2 v_19 v_21 1)) else (c_X9_readQuery_b71 F T (c_X9_readQuery_L14 F T lf_14) cs_24 u0 u1 u2 v_19 v_21)))
def c_X9_readQuery_b11 (F : Nat) (T : TC_X9_readQuery) (cs1 : CS) (u0 : Nat) (y0 : Nat) : Option (CS × Nat) := c_X9_readQuery_L14 F T F cs1 u0 y0 0
def c_X9_readQuery_b8 (F : Nat) (T : TC_X9_readQuery) (cs1 : CS) (u0 : Nat) (y0 : Nat) (y1 : Nat) (y2 : Nat) : Option (CS × Nat) := Option.bind (c_X3_init F cs1 y1 y0) fun cs_29 => c_X9_readQuery_b11 F T cs_29 u0 y2
def c_X9_readQuery_b3 (F : Nat) (T : TC_X9_readQuery) (cs1 : CS) (u0 : Nat) (y0 : Nat) : Option (CS × Nat) := Option.bind (ckE cs1 10 u0) fun _ => Option.bind (T.2.1 cs1 u0) fun z_30 => c_X9_readQuery_b8 F T z_30.1 u0 z_30.2 y0 y0
def cb_X9_readQuery (F : Nat) (T : TC_X9_readQuery) (cs : CS) (x0 : Nat) : Option (CS × Nat) := Option.bind (nwO cs 4 6) fun cs_32 => c_X9_readQuery_b3 F T cs_32 x0 (kK cs)
theorem dX9_readSelect_0 : decode cX9_readSelect 0 = .ok (.aload_n 0, 1) := by decide +kernel
theorem dX9_readSelect_1 : decode cX9_readSelect 1 = .ok (.getfield 198, 3) := by decide +kernel
theorem dX9_readSelect_4 : decode cX9_readSelect 4 = .ok (.astore_n 1, 1) := by decide +kernel
theorem dX9_readSelect_5 : decode cX9_readSelect 5 = .ok (.new 38, 3) := by decide +kernel
theorem dX9_readSelect_8 : decode cX9_readSelect 8 = .ok (.dup, 1) := by decide +kernel
theorem dX9_readSelect_9 : decode cX9_readSelect 9 = .ok (.invokespecial 40, 3) := by decide +kernel
theorem dX9_readSelect_12 : decode cX9_readSelect 12 = .ok (.astore_n 2, 1) := by decide +kernel
theorem dX9_readSelect_13 : decode cX9_readSelect 13 = .ok (.aload_n 0, 1) := by decide +kernel
theorem dX9_readSelect_14 : decode cX9_readSelect 14 = .ok (.aload_n 2, 1) := by decide +kernel
theorem dX9_readSelect_15 : decode cX9_readSelect 15 = .ok (.putfield 198, 3) := by decide +kernel
theorem dX9_readSelect_18 : decode cX9_readSelect 18 = .ok (.aload_n 0, 1) := by decide +kernel
theorem dX9_readSelect_19 : decode cX9_readSelect 19 = .ok (.iconst 0, 1) := by decide +kernel
theorem dX9_readSelect_20 : decode cX9_readSelect 20 = .ok (.invokevirtual 60, 3) := by decide +kernel
theorem dX9_readSelect_23 : decode cX9_readSelect 23 = .ok (.aload_n 2, 1) := by decide +kernel
theorem dX9_readSelect_24 : decode cX9_readSelect 24 = .ok (.aload_n 0, 1) := by decide +kernel
theorem dX9_readSelect_25 : decode cX9_readSelect 25 = .ok (.invokevirtual 118, 3) := by decide +kernel
theorem dX9_readSelect_28 : decode cX9_readSelect 28 = .ok (.putfield 202, 3) := by decide +kernel
theorem dX9_readSelect_31 : decode cX9_readSelect 31 = .ok (.aload_n 2, 1) := by decide +kernel
theorem dX9_readSelect_32 : decode cX9_readSelect 32 = .ok (.aload_n 0, 1) := by decide +kernel
theorem dX9_readSelect_33 : decode cX9_readSelect 33 = .ok (.iconst 1, 1) := by decide +kernel
theorem dX9_readSelect_34 : decode cX9_readSelect 34 = .ok (.invokevirtual 48, 3) := by decide +kernel
theorem dX9_readSelect_37 : decode cX9_readSelect 37 = .ok (.putfield 205, 3) := by decide +kernel
theorem dX9_readSelect_40 : decode cX9_readSelect 40 = .ok (.aload_n 0, 1) := by decide +kernel
theorem dX9_readSelect_41 : decode cX9_readSelect 41 = .ok (.iconst 1, 1) := by decide +kernel
theorem dX9_readSelect_42 : decode cX9_readSelect 42 = .ok (.putfield 163, 3) := by decide +kernel
theorem dX9_readSelect_45 : decode cX9_readSelect 45 = .ok (.iconst 1, 1) := by decide +kernel
theorem dX9_readSelect_46 : decode cX9_readSelect 46 = .ok (.istore_n 3, 1) := by decide +kernel
theorem dX9_readSelect_47 : decode cX9_readSelect 47 = .ok (.iconst 0, 1) := by decide +kernel
theorem dX9_readSelect_48 : decode cX9_readSelect 48 = .ok (.istore 4, 2) := by decide +kernel
theorem dX9_readSelect_50 : decode cX9_readSelect 50 = .ok (.iload 4, 2) := by decide +kernel
theorem dX9_readSelect_52 : decode cX9_readSelect 52 = .ok (.sipush 2000, 3) := by decide +kernel
theorem dX9_readSelect_55 : decode cX9_readSelect 55 = .ok (.if_icmp .ge 28, 3) := by decide +kernel
theorem dX9_readSelect_58 : decode cX9_readSelect 58 = .ok (.iload_n 3, 1) := by decide +kernel
theorem dX9_readSelect_59 : decode cX9_readSelect 59 = .ok (.ifCond .eq 24, 3) := by decide +kernel
theorem dX9_readSelect_62 : decode cX9_readSelect 62 = .ok (.aload_n 0, 1) := by decide +kernel
theorem dX9_readSelect_63 : decode cX9_readSelect 63 = .ok (.aload_n 2, 1) := by decide +kernel
theorem dX9_readSelect_64 : decode cX9_readSelect 64 = .ok (.getfield 208, 3) := by decide +kernel
theorem dX9_readSelect_67 : decode cX9_readSelect 67 = .ok (.invokevirtual 209, 3) := by decide +kernel
theorem dX9_readSelect_70 : decode cX9_readSelect 70 = .ok (.aload_n 0, 1) := by decide +kernel
theorem dX9_readSelect_71 : decode cX9_readSelect 71 = .ok (.bipush 43, 2) := by decide +kernel
theorem dX9_readSelect_73 : decode cX9_readSelect 73 = .ok (.invokevirtual 48, 3) := by decide +kernel
theorem dX9_readSelect_76 : decode cX9_readSelect 76 = .ok (.istore_n 3, 1) := by decide +kernel
theorem dX9_readSelect_77 : decode cX9_readSelect 77 = .ok (.iinc 4 1, 3) := by decide +kernel
theorem dX9_readSelect_80 : decode cX9_readSelect 80 = .ok (.goto (-30), 3) := by decide +kernel
theorem dX9_readSelect_83 : decode cX9_readSelect 83 = .ok (.aload_n 0, 1) := by decide +kernel
theorem dX9_readSelect_84 : decode cX9_readSelect 84 = .ok (.iconst 2, 1) := by decide +kernel
theorem dX9_readSelect_85 : decode cX9_readSelect 85 = .ok (.invokevirtual 60, 3) := by decide +kernel
theorem dX9_readSelect_88 : decode cX9_readSelect 88 = .ok (.aload_n 0, 1) := by decide +kernel
theorem dX9_readSelect_89 : decode cX9_readSelect 89 = .ok (.aload_n 2, 1) := by decide +kernel
theorem dX9_readSelect_90 : decode cX9_readSelect 90 = .ok (.invokevirtual 213, 3) := by decide +kernel
theorem dX9_readSelect_93 : decode cX9_readSelect 93 = .ok (.aload_n 0, 1) := by decide +kernel
theorem dX9_readSelect_94 : decode cX9_readSelect 94 = .ok (.iconst 0, 1) := by decide +kernel
theorem dX9_readSelect_95 : decode cX9_readSelect 95 = .ok (.putfield 163, 3) := by decide +kernel
theorem dX9_readSelect_98 : decode cX9_readSelect 98 = .ok (.aload_n 0, 1) := by decide +kernel
theorem dX9_readSelect_99 : decode cX9_readSelect 99 = .ok (.bipush 6, 2) := by decide +kernel
theorem dX9_readSelect_101 : decode cX9_readSelect 101 = .ok (.invokevirtual 48, 3) := by decide +kernel
theorem dX9_readSelect_104 : decode cX9_readSelect 104 = .ok (.ifCond .eq 11, 3) := by decide +kernel
theorem dX9_readSelect_107 : decode cX9_readSelect 107 = .ok (.aload_n 2, 1) := by decide +kernel
theorem dX9_readSelect_108 : decode cX9_readSelect 108 = .ok (.aload_n 0, 1) := by decide +kernel
theorem dX9_readSelect_109 : decode cX9_readSelect 109 = .ok (.invokevirtual 174, 3) := by decide +kernel
theorem dX9_readSelect_112 : decode cX9_readSelect 112 = .ok (.putfield 216, 3) := by decide +kernel
theorem dX9_readSelect_115 : decode cX9_readSelect 115 = .ok (.aload_n 0, 1) := by decide +kernel
theorem dX9_readSelect_116 : decode cX9_readSelect 116 = .ok (.invokevirtual 114, 3) := by decide +kernel
theorem dX9_readSelect_119 : decode cX9_readSelect 119 = .ok (.bipush 7, 2) := by decide +kernel
theorem dX9_readSelect_121 : decode cX9_readSelect 121 = .ok (.if_icmp .ne 8, 3) := by decide +kernel
theorem dX9_readSelect_124 : decode cX9_readSelect 124 = .ok (.aload_n 0, 1) := by decide +kernel
theorem dX9_readSelect_125 : decode cX9_readSelect 125 = .ok (.aload_n 2, 1) := by decide +kernel
theorem dX9_readSelect_126 : decode cX9_readSelect 126 = .ok (.invokevirtual 219, 3) := by decide +kernel
theorem dX9_readSelect_129 : decode cX9_readSelect 129 = .ok (.aload_n 0, 1) := by decide +kernel
theorem dX9_readSelect_130 : decode cX9_readSelect 130 = .ok (.iconst 1, 1) := by decide +kernel
theorem dX9_readSelect_131 : decode cX9_readSelect 131 = .ok (.putfield 163, 3) := by decide +kernel
theorem dX9_readSelect_134 : decode cX9_readSelect 134 = .ok (.aload_n 0, 1) := by decide +kernel
theorem dX9_readSelect_135 : decode cX9_readSelect 135 = .ok (.bipush 9, 2) := by decide +kernel
theorem dX9_readSelect_137 : decode cX9_readSelect 137 = .ok (.invokevirtual 48, 3) := by decide +kernel
theorem dX9_readSelect_140 : decode cX9_readSelect 140 = .ok (.ifCond .eq 11, 3) := by decide +kernel
theorem dX9_readSelect_143 : decode cX9_readSelect 143 = .ok (.aload_n 2, 1) := by decide +kernel
theorem dX9_readSelect_144 : decode cX9_readSelect 144 = .ok (.aload_n 0, 1) := by decide +kernel
theorem dX9_readSelect_145 : decode cX9_readSelect 145 = .ok (.invokevirtual 174, 3) := by decide +kernel
theorem dX9_readSelect_148 : decode cX9_readSelect 148 = .ok (.putfield 222, 3) := by decide +kernel
theorem dX9_readSelect_151 : decode cX9_readSelect 151 = .ok (.aload_n 0, 1) := by decide +kernel
theorem dX9_readSelect_152 : decode cX9_readSelect 152 = .ok (.aload_n 1, 1) := by decide +kernel
theorem dX9_readSelect_153 : decode cX9_readSelect 153 = .ok (.putfield 198, 3) := by decide +kernel
theorem dX9_readSelect_156 : decode cX9_readSelect 156 = .ok (.aload_n 2, 1) := by decide +kernel
theorem dX9_readSelect_157 : decode cX9_readSelect 157 = .ok (.areturn, 1) := by decide +kernel
def c_X9_readSelect_b151 (F : Nat) (T : TC_X9_readQuery) (cs1 : CS) (u0 : Nat) (u1 : Option Nat) (u2 : Nat) : Option (CS × Nat) := Option.bind (pR cs1 10 330 u0 u1) fun cs_1 => some (cs_1, u2)
def c_X9_readSelect_b129 (F : Nat) (T : TC_X9_readQuery) (cs1 : CS) (u0 : Nat) (u1 : Option Nat) (u2 : Nat) : Option (CS × Nat) := Option.bind (pI cs1 10 331 u0 1) fun cs_2 => Option.bind (ckE cs_2 10 u0) fun _ => Option.bind (c_X9_accept F cs_2 u0 9) fun z_3 => if z_3.2 = 0 then (c_X9_readSelect_b151 F T z_3.1 u0 u1 u2) else (Option.bind (ckE z_3.1 10 u0) fun _ => Option.bind (c_X9_readExpr F 300 z_3.1 u0) fun z_6 => Option.bind (pI z_6.1 6 201 u2 z_6.2) fun cs_8 => c_X9_readSelect_b151 F T cs_8 u0 u1 u2)
def c_X9_readSelect_b115 (F : Nat) (T : TC_X9_readQuery) (cs1 : CS) (u0 : Nat) (u1 : Option Nat) (u2 : Nat) : Option (CS × Nat) := Option.bind (ckE cs1 10 u0) fun _ => Option.bind (c_X9_kind F cs1 u0) fun v_9 => if v_9 = 7 then (Option.bind (ckE cs1 10 u0) fun _ => Option.bind (c_X9_readGroups F cs1 u0 u2) fun cs_12 => c_X9_readSelect_b129 F T cs_12 u0 u1 u2) else (c_X9_readSelect_b129 F T cs1 u0 u1 u2)
def c_X9_readSelect_b93 (F : Nat) (T : TC_X9_readQuery) (cs1 : CS) (u0 : Nat) (u1 : Option Nat) (u2 : Nat) : Option (CS × Nat) := Option.bind (pI cs1 10 331 u0 0) fun cs_14 => Option.bind (ckE cs_14 10 u0) fun _ => Option.bind (c_X9_accept F cs_14 u0 6) fun z_15 => if z_15.2 = 0 then (c_X9_readSelect_b115 F T z_15.1 u0 u1 u2) else (Option.bind (ckE z_15.1 10 u0) fun _ => Option.bind (c_X9_readExpr F 300 z_15.1 u0) fun z_18 => Option.bind (pI z_18.1 6 197 u2 z_18.2) fun cs_20 => c_X9_readSelect_b115 F T cs_20 u0 u1 u2)
def c_X9_readSelect_b83 (F : Nat) (T : TC_X9_readQuery) (cs1 : CS) (u0 : Nat) (u1 : Option Nat) (u2 : Nat) : Option (CS × Nat) := Option.bind (ckE cs1 10 u0) fun _ => Option.bind (c_X9_expect F cs1 u0 2) fun cs_21 => Option.bind (ckE cs_21 10 u0) fun _ => Option.bind (T.2.2.1 cs_21 u0 u2) fun cs_23 => c_X9_readSelect_b93 F T cs_23 u0 u1 u2
def c_X9_readSelect_L50 (F : Nat) (T : TC_X9_readQuery) : Nat → CS → Nat → Option Nat → Nat → Int32 → Int32 → Option (CS × Nat)
  | 0, _, _, _, _, _, _ => none
  | lf_50 + 1, cs1, u0, u1, u2, u3, u4 => if 2000 ≤ u4 then (c_X9_readSelect_b83 F T cs1 u0 u1 u2) else (if u3 = 0 then (c_X9_readSelect_b83 F T cs1 u0 u1 u2) else (Option.bind (gR cs1 6 194 u2) fun v_27 => Option.bind (v_27) fun i_28 => Option.bind (ckE cs1 10 u0) fun _ => Option.bind (c_X9_readItem F cs1 u0 i_28) fun cs_29 => Option.bind (ckE cs_29 10 u0) fun _ => Option.bind (c_X9_accept F cs_29 u0 43) fun z_31 => (c_X9_readSelect_L50 F T lf_50) z_31.1 u0 u1 u2 z_31.2 (u4 + 1)))
def c_X9_readSelect_b12 (F : Nat) (T : TC_X9_readQuery) (cs1 : CS) (u0 : Nat) (u1 : Option Nat) (y0 : Nat) : Option (CS × Nat) := Option.bind (pR cs1 10 330 u0 (some y0)) fun cs_33 => Option.bind (ckE cs_33 10 u0) fun _ => Option.bind (c_X9_expect F cs_33 u0 0) fun cs_34 => Option.bind (ckE cs_34 10 u0) fun _ => Option.bind (c_X9_here F cs_34 u0) fun v_36 => Option.bind (pI cs_34 6 193 y0 v_36) fun cs_38 => Option.bind (ckE cs_38 10 u0) fun _ => Option.bind (c_X9_accept F cs_38 u0 1) fun z_39 => Option.bind (ckZ z_39.2) fun _ => Option.bind (pI z_39.1 6 192 y0 z_39.2) fun cs_41 => Option.bind (pI cs_41 10 331 u0 1) fun cs_43 => c_X9_readSelect_L50 F T F cs_43 u0 u1 y0 1 0
def c_X9_readSelect_b8 (F : Nat) (T : TC_X9_readQuery) (cs1 : CS) (u0 : Nat) (u1 : Option Nat) (y0 : Nat) : Option (CS × Nat) := Option.bind (c_X5_init F cs1 y0) fun cs_44 => c_X9_readSelect_b12 F T cs_44 u0 u1 y0
def cb_X9_readSelect (F : Nat) (T : TC_X9_readQuery) (cs : CS) (x0 : Nat) : Option (CS × Nat) := Option.bind (gR cs 10 330 x0) fun v_45 => Option.bind (nwO cs 6 15) fun cs_46 => c_X9_readSelect_b8 F T cs_46 x0 v_45 (kK cs)
theorem dX9_readSources_0 : decode cX9_readSources 0 = .ok (.aload_n 1, 1) := by decide +kernel
theorem dX9_readSources_1 : decode cX9_readSources 1 = .ok (.aload_n 0, 1) := by decide +kernel
theorem dX9_readSources_2 : decode cX9_readSources 2 = .ok (.invokevirtual 241, 3) := by decide +kernel
theorem dX9_readSources_5 : decode cX9_readSources 5 = .ok (.invokestatic 245, 3) := by decide +kernel
theorem dX9_readSources_8 : decode cX9_readSources 8 = .ok (.iconst 0, 1) := by decide +kernel
theorem dX9_readSources_9 : decode cX9_readSources 9 = .ok (.istore_n 2, 1) := by decide +kernel
theorem dX9_readSources_10 : decode cX9_readSources 10 = .ok (.iload_n 2, 1) := by decide +kernel
theorem dX9_readSources_11 : decode cX9_readSources 11 = .ok (.sipush 2000, 3) := by decide +kernel
theorem dX9_readSources_14 : decode cX9_readSources 14 = .ok (.if_icmp .ge 86, 3) := by decide +kernel
theorem dX9_readSources_17 : decode cX9_readSources 17 = .ok (.aload_n 0, 1) := by decide +kernel
theorem dX9_readSources_18 : decode cX9_readSources 18 = .ok (.invokevirtual 114, 3) := by decide +kernel
theorem dX9_readSources_21 : decode cX9_readSources 21 = .ok (.iconst 3, 1) := by decide +kernel
theorem dX9_readSources_22 : decode cX9_readSources 22 = .ok (.if_icmp .eq 11, 3) := by decide +kernel
theorem dX9_readSources_25 : decode cX9_readSources 25 = .ok (.aload_n 0, 1) := by decide +kernel
theorem dX9_readSources_26 : decode cX9_readSources 26 = .ok (.invokevirtual 114, 3) := by decide +kernel
theorem dX9_readSources_29 : decode cX9_readSources 29 = .ok (.iconst 4, 1) := by decide +kernel
theorem dX9_readSources_30 : decode cX9_readSources 30 = .ok (.if_icmp .ne 70, 3) := by decide +kernel
theorem dX9_readSources_33 : decode cX9_readSources 33 = .ok (.aload_n 0, 1) := by decide +kernel
theorem dX9_readSources_34 : decode cX9_readSources 34 = .ok (.iconst 4, 1) := by decide +kernel
theorem dX9_readSources_35 : decode cX9_readSources 35 = .ok (.invokevirtual 48, 3) := by decide +kernel
theorem dX9_readSources_38 : decode cX9_readSources 38 = .ok (.istore_n 3, 1) := by decide +kernel
theorem dX9_readSources_39 : decode cX9_readSources 39 = .ok (.aload_n 0, 1) := by decide +kernel
theorem dX9_readSources_40 : decode cX9_readSources 40 = .ok (.invokevirtual 118, 3) := by decide +kernel
theorem dX9_readSources_43 : decode cX9_readSources 43 = .ok (.istore 4, 2) := by decide +kernel
theorem dX9_readSources_45 : decode cX9_readSources 45 = .ok (.aload_n 0, 1) := by decide +kernel
theorem dX9_readSources_46 : decode cX9_readSources 46 = .ok (.iconst 3, 1) := by decide +kernel
theorem dX9_readSources_47 : decode cX9_readSources 47 = .ok (.invokevirtual 60, 3) := by decide +kernel
theorem dX9_readSources_50 : decode cX9_readSources 50 = .ok (.aload_n 0, 1) := by decide +kernel
theorem dX9_readSources_51 : decode cX9_readSources 51 = .ok (.invokevirtual 241, 3) := by decide +kernel
theorem dX9_readSources_54 : decode cX9_readSources 54 = .ok (.astore 5, 2) := by decide +kernel
theorem dX9_readSources_56 : decode cX9_readSources 56 = .ok (.aload 5, 2) := by decide +kernel
theorem dX9_readSources_58 : decode cX9_readSources 58 = .ok (.iload_n 3, 1) := by decide +kernel
theorem dX9_readSources_59 : decode cX9_readSources 59 = .ok (.putfield 249, 3) := by decide +kernel
theorem dX9_readSources_62 : decode cX9_readSources 62 = .ok (.aload 5, 2) := by decide +kernel
theorem dX9_readSources_64 : decode cX9_readSources 64 = .ok (.iload 4, 2) := by decide +kernel
theorem dX9_readSources_66 : decode cX9_readSources 66 = .ok (.putfield 252, 3) := by decide +kernel
theorem dX9_readSources_69 : decode cX9_readSources 69 = .ok (.aload_n 0, 1) := by decide +kernel
theorem dX9_readSources_70 : decode cX9_readSources 70 = .ok (.iconst 5, 1) := by decide +kernel
theorem dX9_readSources_71 : decode cX9_readSources 71 = .ok (.invokevirtual 60, 3) := by decide +kernel
theorem dX9_readSources_74 : decode cX9_readSources 74 = .ok (.aload_n 0, 1) := by decide +kernel
theorem dX9_readSources_75 : decode cX9_readSources 75 = .ok (.iconst 0, 1) := by decide +kernel
theorem dX9_readSources_76 : decode cX9_readSources 76 = .ok (.putfield 163, 3) := by decide +kernel
theorem dX9_readSources_79 : decode cX9_readSources 79 = .ok (.aload 5, 2) := by decide +kernel
theorem dX9_readSources_81 : decode cX9_readSources 81 = .ok (.aload_n 0, 1) := by decide +kernel
theorem dX9_readSources_82 : decode cX9_readSources 82 = .ok (.invokevirtual 174, 3) := by decide +kernel
theorem dX9_readSources_85 : decode cX9_readSources 85 = .ok (.putfield 255, 3) := by decide +kernel
theorem dX9_readSources_88 : decode cX9_readSources 88 = .ok (.aload_n 1, 1) := by decide +kernel
theorem dX9_readSources_89 : decode cX9_readSources 89 = .ok (.aload 5, 2) := by decide +kernel
theorem dX9_readSources_91 : decode cX9_readSources 91 = .ok (.invokestatic 245, 3) := by decide +kernel
theorem dX9_readSources_94 : decode cX9_readSources 94 = .ok (.iinc 2 1, 3) := by decide +kernel
theorem dX9_readSources_97 : decode cX9_readSources 97 = .ok (.goto (-87), 3) := by decide +kernel
theorem dX9_readSources_100 : decode cX9_readSources 100 = .ok (.return_, 1) := by decide +kernel
def c_X9_readSources_b100 (F : Nat) (T : TC_X9_readQuery) (cs1 : CS) : Option CS := some cs1
def c_X9_readSources_b54 (F : Nat) (T : TC_X9_readQuery) (rc10 : CS → Nat → Nat → Int32 → Option CS) (cs1 : CS) (u0 : Nat) (u1 : Nat) (u2 : Int32) (u3 : Int32) (u4 : Int32) (y0 : Nat) : Option CS := Option.bind (ckZ u3) fun _ => Option.bind (pI cs1 7 231 y0 u3) fun cs_1 => Option.bind (pI cs_1 7 232 y0 u4) fun cs_3 => Option.bind (ckE cs_3 10 u0) fun _ => Option.bind (c_X9_expect F cs_3 u0 5) fun cs_4 => Option.bind (pI cs_4 10 331 u0 0) fun cs_6 => Option.bind (ckE cs_6 10 u0) fun _ => Option.bind (c_X9_readExpr F 300 cs_6 u0) fun z_7 => Option.bind (pI z_7.1 7 233 y0 z_7.2) fun cs_9 => Option.bind (c_X9_addSource F cs_9 u1 y0) fun cs_10 => rc10 cs_10 u0 u1 (u2 + 1)
def c_X9_readSources_b33 (F : Nat) (T : TC_X9_readQuery) (rc10 : CS → Nat → Nat → Int32 → Option CS) (cs1 : CS) (u0 : Nat) (u1 : Nat) (u2 : Int32) : Option CS := Option.bind (ckE cs1 10 u0) fun _ => Option.bind (c_X9_accept F cs1 u0 4) fun z_11 => Option.bind (ckE z_11.1 10 u0) fun _ => Option.bind (c_X9_here F z_11.1 u0) fun v_13 => Option.bind (ckE z_11.1 10 u0) fun _ => Option.bind (c_X9_expect F z_11.1 u0 3) fun cs_15 => Option.bind (ckE cs_15 10 u0) fun _ => Option.bind (T.2.2.2 cs_15 u0) fun z_17 => c_X9_readSources_b54 F T rc10 z_17.1 u0 u1 u2 z_11.2 v_13 z_17.2
def c_X9_readSources_L10 (F : Nat) (T : TC_X9_readQuery) : Nat → CS → Nat → Nat → Int32 → Option CS
  | 0, _, _, _, _ => none
  | lf_10 + 1, cs1, u0, u1, u2 => if 2000 ≤ u2 then (c_X9_readSources_b100 F T cs1) else (Option.bind (ckE cs1 10 u0) fun _ => Option.bind (c_X9_kind F cs1 u0) fun v_20 => if v_20 = 3 then (c_X9_readSources_b33 F T (c_X9_readSources_L10 F T lf_10) cs1 u0 u1 u2) else (Option.bind (ckE cs1 10 u0) fun _ => Option.bind (c_X9_kind F cs1 u0) fun v_23 => if v_23 = 4 then (c_X9_readSources_b33 F T (c_X9_readSources_L10 F T lf_10) cs1 u0 u1 u2) else (c_X9_readSources_b100 F T cs1)))
def c_X9_readSources_b5 (F : Nat) (T : TC_X9_readQuery) (cs1 : CS) (u0 : Nat) (u1 : Nat) (y0 : Nat) (y1 : Nat) : Option CS := Option.bind (c_X9_addSource F cs1 y1 y0) fun cs_26 => c_X9_readSources_L10 F T F cs_26 u0 u1 0
def cb_X9_readSources (F : Nat) (T : TC_X9_readQuery) (cs : CS) (x0 : Nat) (x1 : Nat) : Option CS := Option.bind (ckE cs 10 x0) fun _ => Option.bind (T.2.2.2 cs x0) fun z_27 => c_X9_readSources_b5 F T z_27.1 x0 x1 z_27.2 x1
theorem dX9_readSource_0 : decode cX9_readSource 0 = .ok (.new 30, 3) := by decide +kernel
theorem dX9_readSource_3 : decode cX9_readSource 3 = .ok (.dup, 1) := by decide +kernel
theorem dX9_readSource_4 : decode cX9_readSource 4 = .ok (.invokespecial 264, 3) := by decide +kernel
theorem dX9_readSource_7 : decode cX9_readSource 7 = .ok (.astore_n 1, 1) := by decide +kernel
theorem dX9_readSource_8 : decode cX9_readSource 8 = .ok (.aload_n 1, 1) := by decide +kernel
theorem dX9_readSource_9 : decode cX9_readSource 9 = .ok (.aload_n 0, 1) := by decide +kernel
theorem dX9_readSource_10 : decode cX9_readSource 10 = .ok (.invokevirtual 118, 3) := by decide +kernel
theorem dX9_readSource_13 : decode cX9_readSource 13 = .ok (.putfield 265, 3) := by decide +kernel
theorem dX9_readSource_16 : decode cX9_readSource 16 = .ok (.aload_n 0, 1) := by decide +kernel
theorem dX9_readSource_17 : decode cX9_readSource 17 = .ok (.invokevirtual 114, 3) := by decide +kernel
theorem dX9_readSource_20 : decode cX9_readSource 20 = .ok (.bipush 41, 2) := by decide +kernel
theorem dX9_readSource_22 : decode cX9_readSource 22 = .ok (.if_icmp .ne 48, 3) := by decide +kernel
theorem dX9_readSource_25 : decode cX9_readSource 25 = .ok (.aload_n 0, 1) := by decide +kernel
theorem dX9_readSource_26 : decode cX9_readSource 26 = .ok (.invokevirtual 266, 3) := by decide +kernel
theorem dX9_readSource_29 : decode cX9_readSource 29 = .ok (.aload_n 0, 1) := by decide +kernel
theorem dX9_readSource_30 : decode cX9_readSource 30 = .ok (.bipush 41, 2) := by decide +kernel
theorem dX9_readSource_32 : decode cX9_readSource 32 = .ok (.invokevirtual 60, 3) := by decide +kernel
theorem dX9_readSource_35 : decode cX9_readSource 35 = .ok (.aload_n 1, 1) := by decide +kernel
theorem dX9_readSource_36 : decode cX9_readSource 36 = .ok (.aload_n 0, 1) := by decide +kernel
theorem dX9_readSource_37 : decode cX9_readSource 37 = .ok (.invokevirtual 56, 3) := by decide +kernel
theorem dX9_readSource_40 : decode cX9_readSource 40 = .ok (.putfield 269, 3) := by decide +kernel
theorem dX9_readSource_43 : decode cX9_readSource 43 = .ok (.aload_n 1, 1) := by decide +kernel
theorem dX9_readSource_44 : decode cX9_readSource 44 = .ok (.aload_n 0, 1) := by decide +kernel
theorem dX9_readSource_45 : decode cX9_readSource 45 = .ok (.invokevirtual 118, 3) := by decide +kernel
theorem dX9_readSource_48 : decode cX9_readSource 48 = .ok (.putfield 272, 3) := by decide +kernel
theorem dX9_readSource_51 : decode cX9_readSource 51 = .ok (.aload_n 0, 1) := by decide +kernel
theorem dX9_readSource_52 : decode cX9_readSource 52 = .ok (.bipush 42, 2) := by decide +kernel
theorem dX9_readSource_54 : decode cX9_readSource 54 = .ok (.invokevirtual 60, 3) := by decide +kernel
theorem dX9_readSource_57 : decode cX9_readSource 57 = .ok (.aload_n 0, 1) := by decide +kernel
theorem dX9_readSource_58 : decode cX9_readSource 58 = .ok (.dup, 1) := by decide +kernel
theorem dX9_readSource_59 : decode cX9_readSource 59 = .ok (.getfield 275, 3) := by decide +kernel
theorem dX9_readSource_62 : decode cX9_readSource 62 = .ok (.iconst 1, 1) := by decide +kernel
theorem dX9_readSource_63 : decode cX9_readSource 63 = .ok (.isub, 1) := by decide +kernel
theorem dX9_readSource_64 : decode cX9_readSource 64 = .ok (.putfield 275, 3) := by decide +kernel
theorem dX9_readSource_67 : decode cX9_readSource 67 = .ok (.goto 8, 3) := by decide +kernel
theorem dX9_readSource_70 : decode cX9_readSource 70 = .ok (.aload_n 0, 1) := by decide +kernel
theorem dX9_readSource_71 : decode cX9_readSource 71 = .ok (.aload_n 1, 1) := by decide +kernel
theorem dX9_readSource_72 : decode cX9_readSource 72 = .ok (.invokevirtual 278, 3) := by decide +kernel
theorem dX9_readSource_75 : decode cX9_readSource 75 = .ok (.aload_n 0, 1) := by decide +kernel
theorem dX9_readSource_76 : decode cX9_readSource 76 = .ok (.bipush 17, 2) := by decide +kernel
theorem dX9_readSource_78 : decode cX9_readSource 78 = .ok (.invokevirtual 60, 3) := by decide +kernel
theorem dX9_readSource_81 : decode cX9_readSource 81 = .ok (.aload_n 1, 1) := by decide +kernel
theorem dX9_readSource_82 : decode cX9_readSource 82 = .ok (.aload_n 0, 1) := by decide +kernel
theorem dX9_readSource_83 : decode cX9_readSource 83 = .ok (.invokevirtual 118, 3) := by decide +kernel
theorem dX9_readSource_86 : decode cX9_readSource 86 = .ok (.putfield 282, 3) := by decide +kernel
theorem dX9_readSource_89 : decode cX9_readSource 89 = .ok (.aload_n 1, 1) := by decide +kernel
theorem dX9_readSource_90 : decode cX9_readSource 90 = .ok (.aload_n 0, 1) := by decide +kernel
theorem dX9_readSource_91 : decode cX9_readSource 91 = .ok (.invokevirtual 225, 3) := by decide +kernel
theorem dX9_readSource_94 : decode cX9_readSource 94 = .ok (.putfield 285, 3) := by decide +kernel
theorem dX9_readSource_97 : decode cX9_readSource 97 = .ok (.aload_n 1, 1) := by decide +kernel
theorem dX9_readSource_98 : decode cX9_readSource 98 = .ok (.getfield 269, 3) := by decide +kernel
theorem dX9_readSource_101 : decode cX9_readSource 101 = .ok (.ifnonnull 23, 3) := by decide +kernel
theorem dX9_readSource_104 : decode cX9_readSource 104 = .ok (.aload_n 0, 1) := by decide +kernel
theorem dX9_readSource_105 : decode cX9_readSource 105 = .ok (.bipush 18, 2) := by decide +kernel
theorem dX9_readSource_107 : decode cX9_readSource 107 = .ok (.invokevirtual 48, 3) := by decide +kernel
theorem dX9_readSource_110 : decode cX9_readSource 110 = .ok (.ifCond .eq 14, 3) := by decide +kernel
theorem dX9_readSource_113 : decode cX9_readSource 113 = .ok (.aload_n 1, 1) := by decide +kernel
theorem dX9_readSource_114 : decode cX9_readSource 114 = .ok (.aload_n 0, 1) := by decide +kernel
theorem dX9_readSource_115 : decode cX9_readSource 115 = .ok (.ldc2_w 290, 3) := by decide +kernel
theorem dX9_readSource_118 : decode cX9_readSource 118 = .ok (.invokevirtual 184, 3) := by decide +kernel
theorem dX9_readSource_121 : decode cX9_readSource 121 = .ok (.putfield 83, 3) := by decide +kernel
theorem dX9_readSource_124 : decode cX9_readSource 124 = .ok (.aload_n 1, 1) := by decide +kernel
theorem dX9_readSource_125 : decode cX9_readSource 125 = .ok (.areturn, 1) := by decide +kernel
def c_X9_readSource_b124 (F : Nat) (T : TC_X9_readQuery) (cs1 : CS) (u1 : Nat) : Option (CS × Nat) := some (cs1, u1)
def c_X9_readSource_b75 (F : Nat) (T : TC_X9_readQuery) (cs1 : CS) (u0 : Nat) (u1 : Nat) : Option (CS × Nat) := Option.bind (ckE cs1 10 u0) fun _ => Option.bind (c_X9_expect F cs1 u0 17) fun cs_1 => Option.bind (ckE cs_1 10 u0) fun _ => Option.bind (c_X9_here F cs_1 u0) fun v_3 => Option.bind (pI cs_1 7 229 u1 v_3) fun cs_5 => Option.bind (ckE cs_5 10 u0) fun _ => Option.bind (c_X9_readName F cs_5 u0) fun z_6 => Option.bind (pJ z_6.1 7 228 u1 z_6.2) fun cs_8 => Option.bind (gR cs_8 7 225 u1) fun v_9 => oc v_9 (Option.bind (ckE cs_8 10 u0) fun _ => Option.bind (c_X9_accept F cs_8 u0 18) fun z_11 => if z_11.2 = 0 then (c_X9_readSource_b124 F T z_11.1 u1) else (Option.bind (ckE z_11.1 10 u0) fun _ => Option.bind (c_X9_readNumber F z_11.1 u0 (9223372036854775807)) fun z_14 => Option.bind (pJ z_14.1 7 230 u1 z_14.2) fun cs_16 => c_X9_readSource_b124 F T cs_16 u1)) (fun i_10 => c_X9_readSource_b124 F T cs_8 u1)
def c_X9_readSource_b40 (F : Nat) (T : TC_X9_readQuery) (cs1 : CS) (u0 : Nat) (u1 : Nat) (y0 : Nat) (y1 : Nat) : Option (CS × Nat) := Option.bind (pR cs1 7 225 y1 (some y0)) fun cs_17 => Option.bind (ckE cs_17 10 u0) fun _ => Option.bind (c_X9_here F cs_17 u0) fun v_18 => Option.bind (pI cs_17 7 227 u1 v_18) fun cs_20 => Option.bind (ckE cs_20 10 u0) fun _ => Option.bind (c_X9_expect F cs_20 u0 42) fun cs_21 => Option.bind (gI cs_21 10 329 u0) fun v_23 => Option.bind (pI cs_21 10 329 u0 (v_23 - 1)) fun cs_24 => c_X9_readSource_b75 F T cs_24 u0 u1
def c_X9_readSource_b7 (F : Nat) (T : TC_X9_readQuery) (cs1 : CS) (u0 : Nat) (y0 : Nat) : Option (CS × Nat) := Option.bind (ckE cs1 10 u0) fun _ => Option.bind (c_X9_here F cs1 u0) fun v_25 => Option.bind (pI cs1 7 226 y0 v_25) fun cs_27 => Option.bind (ckE cs_27 10 u0) fun _ => Option.bind (c_X9_kind F cs_27 u0) fun v_28 => if v_28 = 41 then (Option.bind (ckE cs_27 10 u0) fun _ => Option.bind (c_X9_deepen F cs_27 u0) fun cs_31 => Option.bind (ckE cs_31 10 u0) fun _ => Option.bind (c_X9_expect F cs_31 u0 41) fun cs_33 => Option.bind (ckE cs_33 10 u0) fun _ => Option.bind (T.1 cs_33 u0) fun z_35 => c_X9_readSource_b40 F T z_35.1 u0 y0 z_35.2 y0) else (Option.bind (ckE cs_27 10 u0) fun _ => Option.bind (c_X9_readLeaf F cs_27 u0 y0) fun cs_37 => c_X9_readSource_b75 F T cs_37 u0 y0)
def c_X9_readSource_b3 (F : Nat) (T : TC_X9_readQuery) (cs1 : CS) (u0 : Nat) (y0 : Nat) : Option (CS × Nat) := Option.bind (c_X6_init F cs1 y0) fun cs_39 => c_X9_readSource_b7 F T cs_39 u0 y0
def cb_X9_readSource (F : Nat) (T : TC_X9_readQuery) (cs : CS) (x0 : Nat) : Option (CS × Nat) := Option.bind (nwO cs 7 12) fun cs_40 => c_X9_readSource_b3 F T cs_40 x0 (kK cs)
theorem cw_X9_X9_readQuery {R : Room} {s : State} {args : Array Value} {y0 : MethodName} {c0 : ByteArray} {n0 : Nat} {r0 : Option FieldType} (hts : ∀ w ∈ wsOf y0 c0 n0 r0, w.before args s = true) {fr mc ms : Nat} (h1 : fr + 1 ≤ R.frames) (h2 : 8 + (7 + 11) + 60 * fr ≤ R.locals) : CallW R s args RX9 RX9 56 yX9_readQuery cX9_readQuery 7 (some (.object "StreamQueries$Query")) (wsOf yX9_readQuery cX9_readQuery 7 (some (.object "StreamQueries$Query"))) ({ frames := fr, cells := mc, slots := ms, locals := 60 * fr } : Room) mc ms 0 := cwV 0 hts (gd_all (in_V kw_911 kw_913 kw_13 kw_193 kc_X9_readQuery)) rfl rfl rfl (by decide +kernel) ⟨h1, h2⟩
theorem cw_X9_X9_readSelect {R : Room} {s : State} {args : Array Value} {y0 : MethodName} {c0 : ByteArray} {n0 : Nat} {r0 : Option FieldType} (hts : ∀ w ∈ wsOf y0 c0 n0 r0, w.before args s = true) {fr mc ms : Nat} (h1 : fr + 1 ≤ R.frames) (h2 : 8 + (5 + 11) + 60 * fr ≤ R.locals) : CallW R s args RX9 RX9 129 yX9_readSelect cX9_readSelect 5 (some (.object "StreamQueries$Select")) (wsOf yX9_readSelect cX9_readSelect 5 (some (.object "StreamQueries$Select"))) ({ frames := fr, cells := mc, slots := ms, locals := 60 * fr } : Room) mc ms 0 := cwV 0 hts (gd_all (in_V kw_915 kw_917 kw_14 kw_193 kc_X9_readSelect)) rfl rfl rfl (by decide +kernel) ⟨h1, h2⟩
theorem cw_X9_X9_readSources {R : Room} {s : State} {args : Array Value} {y0 : MethodName} {c0 : ByteArray} {n0 : Nat} {r0 : Option FieldType} (hts : ∀ w ∈ wsOf y0 c0 n0 r0, w.before args s = true) {fr mc ms : Nat} (h1 : fr + 1 ≤ R.frames) (h2 : 8 + (6 + 11) + 60 * fr ≤ R.locals) : CallW R s args RX9 RX9 213 yX9_readSources cX9_readSources 6 none (wsOf yX9_readSources cX9_readSources 6 none) ({ frames := fr, cells := mc, slots := ms, locals := 60 * fr } : Room) mc ms 1 := cwV 1 hts (gd_all (in_V kw_1038 kw_1040 kw_39 kw_193 kc_X9_readSources)) rfl rfl rfl (by decide +kernel) ⟨h1, h2⟩
theorem cw_X9_X9_readSource {R : Room} {s : State} {args : Array Value} {y0 : MethodName} {c0 : ByteArray} {n0 : Nat} {r0 : Option FieldType} (hts : ∀ w ∈ wsOf y0 c0 n0 r0, w.before args s = true) {fr mc ms : Nat} (h1 : fr + 1 ≤ R.frames) (h2 : 8 + (2 + 11) + 60 * fr ≤ R.locals) : CallW R s args RX9 RX9 241 yX9_readSource cX9_readSource 2 (some (.object "StreamQueries$Source")) (wsOf yX9_readSource cX9_readSource 2 (some (.object "StreamQueries$Source"))) ({ frames := fr, cells := mc, slots := ms, locals := 60 * fr } : Room) mc ms 0 := cwV 0 hts (gd_all (in_V kw_1042 kw_1044 kw_40 kw_193 kc_X9_readSource)) rfl rfl rfl (by decide +kernel) ⟨h1, h2⟩
theorem mo_c_X9_readQuery_b133 (F : Nat) (T : TC_X9_readQuery) (hM_X9_readQuery : ∀ (cs : CS) (x0 : Nat) (cs9 : CS) (r9 : Nat), T.1 cs x0 = some (cs9, r9) → kK cs ≤ kK cs9 ∧ kM cs ≤ kM cs9) (hM_X9_readSelect : ∀ (cs : CS) (x0 : Nat) (cs9 : CS) (r9 : Nat), T.2.1 cs x0 = some (cs9, r9) → kK cs ≤ kK cs9 ∧ kM cs ≤ kM cs9) (hM_X9_readSources : ∀ (cs : CS) (x0 : Nat) (x1 : Nat) (cs9 : CS), T.2.2.1 cs x0 x1 = some cs9 → kK cs ≤ kK cs9 ∧ kM cs ≤ kM cs9) (hM_X9_readSource : ∀ (cs : CS) (x0 : Nat) (cs9 : CS) (r9 : Nat), T.2.2.2 cs x0 = some (cs9, r9) → kK cs ≤ kK cs9 ∧ kM cs ≤ kM cs9) (cs1 : CS) (u1 : Nat) (cs9 : CS) (r9 : Nat) (h : c_X9_readQuery_b133 F T cs1 u1 = some (cs9, r9)) : kK cs1 ≤ kK cs9 ∧ kM cs1 ≤ kM cs9 := by
  unfold c_X9_readQuery_b133 at h
  have h9 := (Prod.mk.inj (Option.some.inj h)).1
  have k9 := congrArg kK h9; have m9 := congrArg kM h9; exact ⟨by omega, by omega⟩
theorem mo_c_X9_readQuery_b119 (F : Nat) (T : TC_X9_readQuery) (hM_X9_readQuery : ∀ (cs : CS) (x0 : Nat) (cs9 : CS) (r9 : Nat), T.1 cs x0 = some (cs9, r9) → kK cs ≤ kK cs9 ∧ kM cs ≤ kM cs9) (hM_X9_readSelect : ∀ (cs : CS) (x0 : Nat) (cs9 : CS) (r9 : Nat), T.2.1 cs x0 = some (cs9, r9) → kK cs ≤ kK cs9 ∧ kM cs ≤ kM cs9) (hM_X9_readSources : ∀ (cs : CS) (x0 : Nat) (x1 : Nat) (cs9 : CS), T.2.2.1 cs x0 x1 = some cs9 → kK cs ≤ kK cs9 ∧ kM cs ≤ kM cs9) (hM_X9_readSource : ∀ (cs : CS) (x0 : Nat) (cs9 : CS) (r9 : Nat), T.2.2.2 cs x0 = some (cs9, r9) → kK cs ≤ kK cs9 ∧ kM cs ≤ kM cs9) (cs1 : CS) (u0 : Nat) (u1 : Nat) (cs9 : CS) (r9 : Nat) (h : c_X9_readQuery_b119 F T cs1 u0 u1 = some (cs9, r9)) : kK cs1 ≤ kK cs9 ∧ kM cs1 ≤ kM cs9 := by
  unfold c_X9_readQuery_b119 at h
  replace h := ob h; obtain ⟨w_33, hw_33, h⟩ := h
  replace h := ob h; obtain ⟨v_32, hv_32, h⟩ := h
  by_cases c_34 : v_32 = 14
  · skip
    replace h := (if_pos c_34).symm.trans h
    replace h := ob h; obtain ⟨w_36, hw_36, h⟩ := h
    replace h := ob h; obtain ⟨cs_35, hv_35, h⟩ := h
    obtain ⟨qk_35, qm_35⟩ := mo_c_X9_readOrder F cs1 u0 u1 cs_35 hv_35
    obtain ⟨k9, m9⟩ := mo_c_X9_readQuery_b133 F T hM_X9_readQuery hM_X9_readSelect hM_X9_readSources hM_X9_readSource cs_35 u1 cs9 r9 h
    exact ⟨by omega, by omega⟩
  · skip
    replace h := (if_neg c_34).symm.trans h
    obtain ⟨k9, m9⟩ := mo_c_X9_readQuery_b133 F T hM_X9_readQuery hM_X9_readSelect hM_X9_readSources hM_X9_readSource cs1 u1 cs9 r9 h
    exact ⟨by omega, by omega⟩
theorem mo_c_X9_readQuery_b112 (F : Nat) (T : TC_X9_readQuery) (hM_X9_readQuery : ∀ (cs : CS) (x0 : Nat) (cs9 : CS) (r9 : Nat), T.1 cs x0 = some (cs9, r9) → kK cs ≤ kK cs9 ∧ kM cs ≤ kM cs9) (hM_X9_readSelect : ∀ (cs : CS) (x0 : Nat) (cs9 : CS) (r9 : Nat), T.2.1 cs x0 = some (cs9, r9) → kK cs ≤ kK cs9 ∧ kM cs ≤ kM cs9) (hM_X9_readSources : ∀ (cs : CS) (x0 : Nat) (x1 : Nat) (cs9 : CS), T.2.2.1 cs x0 x1 = some cs9 → kK cs ≤ kK cs9 ∧ kM cs ≤ kM cs9) (hM_X9_readSource : ∀ (cs : CS) (x0 : Nat) (cs9 : CS) (r9 : Nat), T.2.2.2 cs x0 = some (cs9, r9) → kK cs ≤ kK cs9 ∧ kM cs ≤ kM cs9) (rc14 : CS → Nat → Nat → Int32 → Option (CS × Nat)) (hrc14 : ∀ (cs1 : CS) (u0 : Nat) (u1 : Nat) (u2 : Int32) (cs9 : CS) (r9 : Nat), rc14 cs1 u0 u1 u2 = some (cs9, r9) → kK cs1 ≤ kK cs9 ∧ kM cs1 ≤ kM cs9) (cs1 : CS) (u0 : Nat) (u1 : Nat) (u2 : Int32) (y0 : Int32) (cs9 : CS) (r9 : Nat) (h : c_X9_readQuery_b112 F T rc14 cs1 u0 u1 u2 y0 = some (cs9, r9)) : kK cs1 ≤ kK cs9 ∧ kM cs1 ≤ kM cs9 := by
  unfold c_X9_readQuery_b112 at h
  obtain ⟨k9, m9⟩ := hrc14 cs1 u0 u1 (u2 + 1) cs9 r9 h
  exact ⟨by omega, by omega⟩
theorem mo_c_X9_readQuery_b93 (F : Nat) (T : TC_X9_readQuery) (hM_X9_readQuery : ∀ (cs : CS) (x0 : Nat) (cs9 : CS) (r9 : Nat), T.1 cs x0 = some (cs9, r9) → kK cs ≤ kK cs9 ∧ kM cs ≤ kM cs9) (hM_X9_readSelect : ∀ (cs : CS) (x0 : Nat) (cs9 : CS) (r9 : Nat), T.2.1 cs x0 = some (cs9, r9) → kK cs ≤ kK cs9 ∧ kM cs ≤ kM cs9) (hM_X9_readSources : ∀ (cs : CS) (x0 : Nat) (x1 : Nat) (cs9 : CS), T.2.2.1 cs x0 x1 = some cs9 → kK cs ≤ kK cs9 ∧ kM cs ≤ kM cs9) (hM_X9_readSource : ∀ (cs : CS) (x0 : Nat) (cs9 : CS) (r9 : Nat), T.2.2.2 cs x0 = some (cs9, r9) → kK cs ≤ kK cs9 ∧ kM cs ≤ kM cs9) (rc14 : CS → Nat → Nat → Int32 → Option (CS × Nat)) (hrc14 : ∀ (cs1 : CS) (u0 : Nat) (u1 : Nat) (u2 : Int32) (cs9 : CS) (r9 : Nat), rc14 cs1 u0 u1 u2 = some (cs9, r9) → kK cs1 ≤ kK cs9 ∧ kM cs1 ≤ kM cs9) (cs1 : CS) (u0 : Nat) (u1 : Nat) (u2 : Int32) (u4 : Int32) (u6 : Nat) (y0 : Int32) (y1 : Nat) (cs9 : CS) (r9 : Nat) (h : c_X9_readQuery_b93 F T rc14 cs1 u0 u1 u2 u4 u6 y0 y1 = some (cs9, r9)) : kK cs1 ≤ kK cs9 ∧ kM cs1 ≤ kM cs9 := by
  unfold c_X9_readQuery_b93 at h
  replace h := ob h; obtain ⟨cs_32, hv_32, h⟩ := h
  obtain ⟨qk_32, qm_32⟩ := pI_k hv_32
  replace h := ob h; obtain ⟨cs_33, hv_33, h⟩ := h
  obtain ⟨qk_33, qm_33⟩ := pI_k hv_33
  replace h := ob h; obtain ⟨v_34, hv_34, h⟩ := h
  replace h := ob h; obtain ⟨i_35, hi_35, h⟩ := h
  subst hi_35
  replace h := ob h; obtain ⟨cs_36, hv_36, h⟩ := h
  obtain ⟨qk_36, qm_36⟩ := lAd_k hv_36
  obtain ⟨k9, m9⟩ := mo_c_X9_readQuery_b112 F T hM_X9_readQuery hM_X9_readSelect hM_X9_readSources hM_X9_readSource rc14 hrc14 cs_36 u0 u1 u2 1 cs9 r9 h
  exact ⟨by omega, by omega⟩
theorem mo_c_X9_readQuery_b78 (F : Nat) (T : TC_X9_readQuery) (hM_X9_readQuery : ∀ (cs : CS) (x0 : Nat) (cs9 : CS) (r9 : Nat), T.1 cs x0 = some (cs9, r9) → kK cs ≤ kK cs9 ∧ kM cs ≤ kM cs9) (hM_X9_readSelect : ∀ (cs : CS) (x0 : Nat) (cs9 : CS) (r9 : Nat), T.2.1 cs x0 = some (cs9, r9) → kK cs ≤ kK cs9 ∧ kM cs ≤ kM cs9) (hM_X9_readSources : ∀ (cs : CS) (x0 : Nat) (x1 : Nat) (cs9 : CS), T.2.2.1 cs x0 x1 = some cs9 → kK cs ≤ kK cs9 ∧ kM cs ≤ kM cs9) (hM_X9_readSource : ∀ (cs : CS) (x0 : Nat) (cs9 : CS) (r9 : Nat), T.2.2.2 cs x0 = some (cs9, r9) → kK cs ≤ kK cs9 ∧ kM cs ≤ kM cs9) (rc14 : CS → Nat → Nat → Int32 → Option (CS × Nat)) (hrc14 : ∀ (cs1 : CS) (u0 : Nat) (u1 : Nat) (u2 : Int32) (cs9 : CS) (r9 : Nat), rc14 cs1 u0 u1 u2 = some (cs9, r9) → kK cs1 ≤ kK cs9 ∧ kM cs1 ≤ kM cs9) (cs1 : CS) (u0 : Nat) (u1 : Nat) (u2 : Int32) (u3 : Int32) (u4 : Int32) (u5 : Int32) (y0 : Nat) (cs9 : CS) (r9 : Nat) (h : c_X9_readQuery_b78 F T rc14 cs1 u0 u1 u2 u3 u4 u5 y0 = some (cs9, r9)) : kK cs1 ≤ kK cs9 ∧ kM cs1 ≤ kM cs9 := by
  unfold c_X9_readQuery_b78 at h
  by_cases c_32 : u5 = 0
  · skip
    replace h := (if_pos c_32).symm.trans h
    obtain ⟨k9, m9⟩ := mo_c_X9_readQuery_b93 F T hM_X9_readQuery hM_X9_readSelect hM_X9_readSources hM_X9_readSource rc14 hrc14 cs1 u0 u1 u2 u4 y0 u3 y0 cs9 r9 h
    exact ⟨by omega, by omega⟩
  · skip
    replace h := (if_neg c_32).symm.trans h
    obtain ⟨k9, m9⟩ := mo_c_X9_readQuery_b93 F T hM_X9_readQuery hM_X9_readSelect hM_X9_readSources hM_X9_readSource rc14 hrc14 cs1 u0 u1 u2 u4 y0 11 y0 cs9 r9 h
    exact ⟨by omega, by omega⟩
theorem mo_c_X9_readQuery_b72 (F : Nat) (T : TC_X9_readQuery) (hM_X9_readQuery : ∀ (cs : CS) (x0 : Nat) (cs9 : CS) (r9 : Nat), T.1 cs x0 = some (cs9, r9) → kK cs ≤ kK cs9 ∧ kM cs ≤ kM cs9) (hM_X9_readSelect : ∀ (cs : CS) (x0 : Nat) (cs9 : CS) (r9 : Nat), T.2.1 cs x0 = some (cs9, r9) → kK cs ≤ kK cs9 ∧ kM cs ≤ kM cs9) (hM_X9_readSources : ∀ (cs : CS) (x0 : Nat) (x1 : Nat) (cs9 : CS), T.2.2.1 cs x0 x1 = some cs9 → kK cs ≤ kK cs9 ∧ kM cs ≤ kM cs9) (hM_X9_readSource : ∀ (cs : CS) (x0 : Nat) (cs9 : CS) (r9 : Nat), T.2.2.2 cs x0 = some (cs9, r9) → kK cs ≤ kK cs9 ∧ kM cs ≤ kM cs9) (rc14 : CS → Nat → Nat → Int32 → Option (CS × Nat)) (hrc14 : ∀ (cs1 : CS) (u0 : Nat) (u1 : Nat) (u2 : Int32) (cs9 : CS) (r9 : Nat), rc14 cs1 u0 u1 u2 = some (cs9, r9) → kK cs1 ≤ kK cs9 ∧ kM cs1 ≤ kM cs9) (cs1 : CS) (u0 : Nat) (u1 : Nat) (u2 : Int32) (u3 : Int32) (u4 : Int32) (y0 : Int32) (cs9 : CS) (r9 : Nat) (h : c_X9_readQuery_b72 F T rc14 cs1 u0 u1 u2 u3 u4 y0 = some (cs9, r9)) : kK cs1 ≤ kK cs9 ∧ kM cs1 ≤ kM cs9 := by
  unfold c_X9_readQuery_b72 at h
  replace h := ob h; obtain ⟨w_33, hw_33, h⟩ := h
  replace h := ob h; obtain ⟨z_32, hv_32, h⟩ := h
  obtain ⟨qk_32, qm_32⟩ := hM_X9_readSelect cs1 u0 z_32.1 z_32.2 hv_32
  obtain ⟨k9, m9⟩ := mo_c_X9_readQuery_b78 F T hM_X9_readQuery hM_X9_readSelect hM_X9_readSources hM_X9_readSource rc14 hrc14 z_32.1 u0 u1 u2 u3 u4 y0 z_32.2 cs9 r9 h
  exact ⟨by omega, by omega⟩
theorem mo_c_X9_readQuery_b71 (F : Nat) (T : TC_X9_readQuery) (hM_X9_readQuery : ∀ (cs : CS) (x0 : Nat) (cs9 : CS) (r9 : Nat), T.1 cs x0 = some (cs9, r9) → kK cs ≤ kK cs9 ∧ kM cs ≤ kM cs9) (hM_X9_readSelect : ∀ (cs : CS) (x0 : Nat) (cs9 : CS) (r9 : Nat), T.2.1 cs x0 = some (cs9, r9) → kK cs ≤ kK cs9 ∧ kM cs ≤ kM cs9) (hM_X9_readSources : ∀ (cs : CS) (x0 : Nat) (x1 : Nat) (cs9 : CS), T.2.2.1 cs x0 x1 = some cs9 → kK cs ≤ kK cs9 ∧ kM cs ≤ kM cs9) (hM_X9_readSource : ∀ (cs : CS) (x0 : Nat) (cs9 : CS) (r9 : Nat), T.2.2.2 cs x0 = some (cs9, r9) → kK cs ≤ kK cs9 ∧ kM cs ≤ kM cs9) (rc14 : CS → Nat → Nat → Int32 → Option (CS × Nat)) (hrc14 : ∀ (cs1 : CS) (u0 : Nat) (u1 : Nat) (u2 : Int32) (cs9 : CS) (r9 : Nat), rc14 cs1 u0 u1 u2 = some (cs9, r9) → kK cs1 ≤ kK cs9 ∧ kM cs1 ≤ kM cs9) (cs1 : CS) (u0 : Nat) (u1 : Nat) (u2 : Int32) (u3 : Int32) (u4 : Int32) (cs9 : CS) (r9 : Nat) (h : c_X9_readQuery_b71 F T rc14 cs1 u0 u1 u2 u3 u4 = some (cs9, r9)) : kK cs1 ≤ kK cs9 ∧ kM cs1 ≤ kM cs9 := by
  unfold c_X9_readQuery_b71 at h
  obtain ⟨k9, m9⟩ := mo_c_X9_readQuery_b72 F T hM_X9_readQuery hM_X9_readSelect hM_X9_readSources hM_X9_readSource rc14 hrc14 cs1 u0 u1 u2 u3 u4 0 cs9 r9 h
  exact ⟨by omega, by omega⟩
theorem mo_c_X9_readQuery_L14 (F : Nat) (T : TC_X9_readQuery) (hM_X9_readQuery : ∀ (cs : CS) (x0 : Nat) (cs9 : CS) (r9 : Nat), T.1 cs x0 = some (cs9, r9) → kK cs ≤ kK cs9 ∧ kM cs ≤ kM cs9) (hM_X9_readSelect : ∀ (cs : CS) (x0 : Nat) (cs9 : CS) (r9 : Nat), T.2.1 cs x0 = some (cs9, r9) → kK cs ≤ kK cs9 ∧ kM cs ≤ kM cs9) (hM_X9_readSources : ∀ (cs : CS) (x0 : Nat) (x1 : Nat) (cs9 : CS), T.2.2.1 cs x0 x1 = some cs9 → kK cs ≤ kK cs9 ∧ kM cs ≤ kM cs9) (hM_X9_readSource : ∀ (cs : CS) (x0 : Nat) (cs9 : CS) (r9 : Nat), T.2.2.2 cs x0 = some (cs9, r9) → kK cs ≤ kK cs9 ∧ kM cs ≤ kM cs9) : ∀ (lf_14 : Nat) (cs1 : CS) (u0 : Nat) (u1 : Nat) (u2 : Int32) (cs9 : CS) (r9 : Nat), c_X9_readQuery_L14 F T lf_14 cs1 u0 u1 u2 = some (cs9, r9) → kK cs1 ≤ kK cs9 ∧ kM cs1 ≤ kM cs9 := by
  intro lf_14
  induction lf_14 with
  | zero => intro cs1 u0 u1 u2 cs9 r9 h; cases (show (none : Option (CS × Nat)) = _ from h)
  | succ lf_14 ih_14 =>
    intro cs1 u0 u1 u2 cs9 r9 h
    rw [c_X9_readQuery_L14] at h
    by_cases c_32 : 2000 ≤ u2
    · skip
      replace h := (if_pos c_32).symm.trans h
      obtain ⟨k9, m9⟩ := mo_c_X9_readQuery_b119 F T hM_X9_readQuery hM_X9_readSelect hM_X9_readSources hM_X9_readSource cs1 u0 u1 cs9 r9 h
      exact ⟨by omega, by omega⟩
    · skip
      replace h := (if_neg c_32).symm.trans h
      replace h := ob h; obtain ⟨w_34, hw_34, h⟩ := h
      replace h := ob h; obtain ⟨v_33, hv_33, h⟩ := h
      replace h := ob h; obtain ⟨v_35, hv_35, h⟩ := h
      by_cases c_36 : v_35 = 0
      · skip
        replace h := (if_pos c_36).symm.trans h
        obtain ⟨k9, m9⟩ := mo_c_X9_readQuery_b119 F T hM_X9_readQuery hM_X9_readSelect hM_X9_readSources hM_X9_readSource cs1 u0 u1 cs9 r9 h
        exact ⟨by omega, by omega⟩
      · skip
        replace h := (if_neg c_36).symm.trans h
        replace h := ob h; obtain ⟨w_38, hw_38, h⟩ := h
        replace h := ob h; obtain ⟨v_37, hv_37, h⟩ := h
        replace h := ob h; obtain ⟨w_40, hw_40, h⟩ := h
        replace h := ob h; obtain ⟨v_39, hv_39, h⟩ := h
        replace h := ob h; obtain ⟨v_41, hv_41, h⟩ := h
        replace h := ob h; obtain ⟨cs_42, hv_42, h⟩ := h
        obtain ⟨qk_42, qm_42⟩ := pI_k hv_42
        by_cases c_43 : v_37 = 10
        · skip
          replace h := (if_pos c_43).symm.trans h
          replace h := ob h; obtain ⟨w_45, hw_45, h⟩ := h
          replace h := ob h; obtain ⟨z_44, hv_44, h⟩ := h
          obtain ⟨qk_44, qm_44⟩ := k_of (mo_c_X9_accept F cs_42 u0 11 z_44.1 z_44.2 hv_44)
          by_cases c_46 : z_44.2 = 0
          · skip
            replace h := (if_pos c_46).symm.trans h
            obtain ⟨k9, m9⟩ := mo_c_X9_readQuery_b71 F T hM_X9_readQuery hM_X9_readSelect hM_X9_readSources hM_X9_readSource (c_X9_readQuery_L14 F T lf_14) ih_14 z_44.1 u0 u1 u2 v_37 v_39 cs9 r9 h
            exact ⟨by omega, by omega⟩
          · skip
            replace h := (if_neg c_46).symm.trans h
            obtain ⟨k9, m9⟩ := mo_c_X9_readQuery_b72 F T hM_X9_readQuery hM_X9_readSelect hM_X9_readSources hM_X9_readSource (c_X9_readQuery_L14 F T lf_14) ih_14 z_44.1 u0 u1 u2 v_37 v_39 1 cs9 r9 h
            exact ⟨by omega, by omega⟩
        · skip
          replace h := (if_neg c_43).symm.trans h
          obtain ⟨k9, m9⟩ := mo_c_X9_readQuery_b71 F T hM_X9_readQuery hM_X9_readSelect hM_X9_readSources hM_X9_readSource (c_X9_readQuery_L14 F T lf_14) ih_14 cs_42 u0 u1 u2 v_37 v_39 cs9 r9 h
          exact ⟨by omega, by omega⟩
theorem mo_c_X9_readQuery_b11 (F : Nat) (T : TC_X9_readQuery) (hM_X9_readQuery : ∀ (cs : CS) (x0 : Nat) (cs9 : CS) (r9 : Nat), T.1 cs x0 = some (cs9, r9) → kK cs ≤ kK cs9 ∧ kM cs ≤ kM cs9) (hM_X9_readSelect : ∀ (cs : CS) (x0 : Nat) (cs9 : CS) (r9 : Nat), T.2.1 cs x0 = some (cs9, r9) → kK cs ≤ kK cs9 ∧ kM cs ≤ kM cs9) (hM_X9_readSources : ∀ (cs : CS) (x0 : Nat) (x1 : Nat) (cs9 : CS), T.2.2.1 cs x0 x1 = some cs9 → kK cs ≤ kK cs9 ∧ kM cs ≤ kM cs9) (hM_X9_readSource : ∀ (cs : CS) (x0 : Nat) (cs9 : CS) (r9 : Nat), T.2.2.2 cs x0 = some (cs9, r9) → kK cs ≤ kK cs9 ∧ kM cs ≤ kM cs9) (cs1 : CS) (u0 : Nat) (y0 : Nat) (cs9 : CS) (r9 : Nat) (h : c_X9_readQuery_b11 F T cs1 u0 y0 = some (cs9, r9)) : kK cs1 ≤ kK cs9 ∧ kM cs1 ≤ kM cs9 := by
  unfold c_X9_readQuery_b11 at h
  obtain ⟨k9, m9⟩ := mo_c_X9_readQuery_L14 F T hM_X9_readQuery hM_X9_readSelect hM_X9_readSources hM_X9_readSource F cs1 u0 y0 0 cs9 r9 h
  exact ⟨by omega, by omega⟩
theorem mo_c_X9_readQuery_b8 (F : Nat) (T : TC_X9_readQuery) (hM_X9_readQuery : ∀ (cs : CS) (x0 : Nat) (cs9 : CS) (r9 : Nat), T.1 cs x0 = some (cs9, r9) → kK cs ≤ kK cs9 ∧ kM cs ≤ kM cs9) (hM_X9_readSelect : ∀ (cs : CS) (x0 : Nat) (cs9 : CS) (r9 : Nat), T.2.1 cs x0 = some (cs9, r9) → kK cs ≤ kK cs9 ∧ kM cs ≤ kM cs9) (hM_X9_readSources : ∀ (cs : CS) (x0 : Nat) (x1 : Nat) (cs9 : CS), T.2.2.1 cs x0 x1 = some cs9 → kK cs ≤ kK cs9 ∧ kM cs ≤ kM cs9) (hM_X9_readSource : ∀ (cs : CS) (x0 : Nat) (cs9 : CS) (r9 : Nat), T.2.2.2 cs x0 = some (cs9, r9) → kK cs ≤ kK cs9 ∧ kM cs ≤ kM cs9) (cs1 : CS) (u0 : Nat) (y0 : Nat) (y1 : Nat) (y2 : Nat) (cs9 : CS) (r9 : Nat) (h : c_X9_readQuery_b8 F T cs1 u0 y0 y1 y2 = some (cs9, r9)) : kK cs1 ≤ kK cs9 ∧ kM cs1 ≤ kM cs9 := by
  unfold c_X9_readQuery_b8 at h
  replace h := ob h; obtain ⟨cs_32, hv_32, h⟩ := h
  obtain ⟨qk_32, qm_32⟩ := mo_c_X3_init F cs1 y1 y0 cs_32 hv_32
  obtain ⟨k9, m9⟩ := mo_c_X9_readQuery_b11 F T hM_X9_readQuery hM_X9_readSelect hM_X9_readSources hM_X9_readSource cs_32 u0 y2 cs9 r9 h
  exact ⟨by omega, by omega⟩
theorem mo_c_X9_readQuery_b3 (F : Nat) (T : TC_X9_readQuery) (hM_X9_readQuery : ∀ (cs : CS) (x0 : Nat) (cs9 : CS) (r9 : Nat), T.1 cs x0 = some (cs9, r9) → kK cs ≤ kK cs9 ∧ kM cs ≤ kM cs9) (hM_X9_readSelect : ∀ (cs : CS) (x0 : Nat) (cs9 : CS) (r9 : Nat), T.2.1 cs x0 = some (cs9, r9) → kK cs ≤ kK cs9 ∧ kM cs ≤ kM cs9) (hM_X9_readSources : ∀ (cs : CS) (x0 : Nat) (x1 : Nat) (cs9 : CS), T.2.2.1 cs x0 x1 = some cs9 → kK cs ≤ kK cs9 ∧ kM cs ≤ kM cs9) (hM_X9_readSource : ∀ (cs : CS) (x0 : Nat) (cs9 : CS) (r9 : Nat), T.2.2.2 cs x0 = some (cs9, r9) → kK cs ≤ kK cs9 ∧ kM cs ≤ kM cs9) (cs1 : CS) (u0 : Nat) (y0 : Nat) (cs9 : CS) (r9 : Nat) (h : c_X9_readQuery_b3 F T cs1 u0 y0 = some (cs9, r9)) : kK cs1 ≤ kK cs9 ∧ kM cs1 ≤ kM cs9 := by
  unfold c_X9_readQuery_b3 at h
  replace h := ob h; obtain ⟨w_33, hw_33, h⟩ := h
  replace h := ob h; obtain ⟨z_32, hv_32, h⟩ := h
  obtain ⟨qk_32, qm_32⟩ := hM_X9_readSelect cs1 u0 z_32.1 z_32.2 hv_32
  obtain ⟨k9, m9⟩ := mo_c_X9_readQuery_b8 F T hM_X9_readQuery hM_X9_readSelect hM_X9_readSources hM_X9_readSource z_32.1 u0 z_32.2 y0 y0 cs9 r9 h
  exact ⟨by omega, by omega⟩
theorem mo_cb_X9_readQuery (F : Nat) (T : TC_X9_readQuery) (hM_X9_readQuery : ∀ (cs : CS) (x0 : Nat) (cs9 : CS) (r9 : Nat), T.1 cs x0 = some (cs9, r9) → kK cs ≤ kK cs9 ∧ kM cs ≤ kM cs9) (hM_X9_readSelect : ∀ (cs : CS) (x0 : Nat) (cs9 : CS) (r9 : Nat), T.2.1 cs x0 = some (cs9, r9) → kK cs ≤ kK cs9 ∧ kM cs ≤ kM cs9) (hM_X9_readSources : ∀ (cs : CS) (x0 : Nat) (x1 : Nat) (cs9 : CS), T.2.2.1 cs x0 x1 = some cs9 → kK cs ≤ kK cs9 ∧ kM cs ≤ kM cs9) (hM_X9_readSource : ∀ (cs : CS) (x0 : Nat) (cs9 : CS) (r9 : Nat), T.2.2.2 cs x0 = some (cs9, r9) → kK cs ≤ kK cs9 ∧ kM cs ≤ kM cs9) (cs : CS) (x0 : Nat) (cs9 : CS) (r9 : Nat) (h : cb_X9_readQuery F T cs x0 = some (cs9, r9)) : kK cs ≤ kK cs9 ∧ kM cs ≤ kM cs9 := by
  unfold cb_X9_readQuery at h
  replace h := ob h; obtain ⟨cs_32, hv_32, h⟩ := h
  obtain ⟨qk_32, qm_32⟩ := nwO_k hv_32
  obtain ⟨k9, m9⟩ := mo_c_X9_readQuery_b3 F T hM_X9_readQuery hM_X9_readSelect hM_X9_readSources hM_X9_readSource cs_32 x0 (kK cs) cs9 r9 h
  exact ⟨by omega, by omega⟩
theorem mo_c_X9_readSelect_b151 (F : Nat) (T : TC_X9_readQuery) (hM_X9_readQuery : ∀ (cs : CS) (x0 : Nat) (cs9 : CS) (r9 : Nat), T.1 cs x0 = some (cs9, r9) → kK cs ≤ kK cs9 ∧ kM cs ≤ kM cs9) (hM_X9_readSelect : ∀ (cs : CS) (x0 : Nat) (cs9 : CS) (r9 : Nat), T.2.1 cs x0 = some (cs9, r9) → kK cs ≤ kK cs9 ∧ kM cs ≤ kM cs9) (hM_X9_readSources : ∀ (cs : CS) (x0 : Nat) (x1 : Nat) (cs9 : CS), T.2.2.1 cs x0 x1 = some cs9 → kK cs ≤ kK cs9 ∧ kM cs ≤ kM cs9) (hM_X9_readSource : ∀ (cs : CS) (x0 : Nat) (cs9 : CS) (r9 : Nat), T.2.2.2 cs x0 = some (cs9, r9) → kK cs ≤ kK cs9 ∧ kM cs ≤ kM cs9) (cs1 : CS) (u0 : Nat) (u1 : Option Nat) (u2 : Nat) (cs9 : CS) (r9 : Nat) (h : c_X9_readSelect_b151 F T cs1 u0 u1 u2 = some (cs9, r9)) : kK cs1 ≤ kK cs9 ∧ kM cs1 ≤ kM cs9 := by
  unfold c_X9_readSelect_b151 at h
  replace h := ob h; obtain ⟨cs_45, hv_45, h⟩ := h
  obtain ⟨qk_45, qm_45⟩ := pR_k hv_45
  have h9 := (Prod.mk.inj (Option.some.inj h)).1
  have k9 := congrArg kK h9; have m9 := congrArg kM h9; exact ⟨by omega, by omega⟩
theorem mo_c_X9_readSelect_b129 (F : Nat) (T : TC_X9_readQuery) (hM_X9_readQuery : ∀ (cs : CS) (x0 : Nat) (cs9 : CS) (r9 : Nat), T.1 cs x0 = some (cs9, r9) → kK cs ≤ kK cs9 ∧ kM cs ≤ kM cs9) (hM_X9_readSelect : ∀ (cs : CS) (x0 : Nat) (cs9 : CS) (r9 : Nat), T.2.1 cs x0 = some (cs9, r9) → kK cs ≤ kK cs9 ∧ kM cs ≤ kM cs9) (hM_X9_readSources : ∀ (cs : CS) (x0 : Nat) (x1 : Nat) (cs9 : CS), T.2.2.1 cs x0 x1 = some cs9 → kK cs ≤ kK cs9 ∧ kM cs ≤ kM cs9) (hM_X9_readSource : ∀ (cs : CS) (x0 : Nat) (cs9 : CS) (r9 : Nat), T.2.2.2 cs x0 = some (cs9, r9) → kK cs ≤ kK cs9 ∧ kM cs ≤ kM cs9) (cs1 : CS) (u0 : Nat) (u1 : Option Nat) (u2 : Nat) (cs9 : CS) (r9 : Nat) (h : c_X9_readSelect_b129 F T cs1 u0 u1 u2 = some (cs9, r9)) : kK cs1 ≤ kK cs9 ∧ kM cs1 ≤ kM cs9 := by
  unfold c_X9_readSelect_b129 at h
  replace h := ob h; obtain ⟨cs_45, hv_45, h⟩ := h
  obtain ⟨qk_45, qm_45⟩ := pI_k hv_45
  replace h := ob h; obtain ⟨w_47, hw_47, h⟩ := h
  replace h := ob h; obtain ⟨z_46, hv_46, h⟩ := h
  obtain ⟨qk_46, qm_46⟩ := k_of (mo_c_X9_accept F cs_45 u0 9 z_46.1 z_46.2 hv_46)
  by_cases c_48 : z_46.2 = 0
  · skip
    replace h := (if_pos c_48).symm.trans h
    obtain ⟨k9, m9⟩ := mo_c_X9_readSelect_b151 F T hM_X9_readQuery hM_X9_readSelect hM_X9_readSources hM_X9_readSource z_46.1 u0 u1 u2 cs9 r9 h
    exact ⟨by omega, by omega⟩
  · skip
    replace h := (if_neg c_48).symm.trans h
    replace h := ob h; obtain ⟨w_50, hw_50, h⟩ := h
    replace h := ob h; obtain ⟨z_49, hv_49, h⟩ := h
    obtain ⟨qk_49, qm_49⟩ := k_of (mo_c_X9_readExpr F 300 z_46.1 u0 z_49.1 z_49.2 hv_49)
    replace h := ob h; obtain ⟨cs_51, hv_51, h⟩ := h
    obtain ⟨qk_51, qm_51⟩ := pI_k hv_51
    obtain ⟨k9, m9⟩ := mo_c_X9_readSelect_b151 F T hM_X9_readQuery hM_X9_readSelect hM_X9_readSources hM_X9_readSource cs_51 u0 u1 u2 cs9 r9 h
    exact ⟨by omega, by omega⟩
theorem mo_c_X9_readSelect_b115 (F : Nat) (T : TC_X9_readQuery) (hM_X9_readQuery : ∀ (cs : CS) (x0 : Nat) (cs9 : CS) (r9 : Nat), T.1 cs x0 = some (cs9, r9) → kK cs ≤ kK cs9 ∧ kM cs ≤ kM cs9) (hM_X9_readSelect : ∀ (cs : CS) (x0 : Nat) (cs9 : CS) (r9 : Nat), T.2.1 cs x0 = some (cs9, r9) → kK cs ≤ kK cs9 ∧ kM cs ≤ kM cs9) (hM_X9_readSources : ∀ (cs : CS) (x0 : Nat) (x1 : Nat) (cs9 : CS), T.2.2.1 cs x0 x1 = some cs9 → kK cs ≤ kK cs9 ∧ kM cs ≤ kM cs9) (hM_X9_readSource : ∀ (cs : CS) (x0 : Nat) (cs9 : CS) (r9 : Nat), T.2.2.2 cs x0 = some (cs9, r9) → kK cs ≤ kK cs9 ∧ kM cs ≤ kM cs9) (cs1 : CS) (u0 : Nat) (u1 : Option Nat) (u2 : Nat) (cs9 : CS) (r9 : Nat) (h : c_X9_readSelect_b115 F T cs1 u0 u1 u2 = some (cs9, r9)) : kK cs1 ≤ kK cs9 ∧ kM cs1 ≤ kM cs9 := by
  unfold c_X9_readSelect_b115 at h
  replace h := ob h; obtain ⟨w_46, hw_46, h⟩ := h
  replace h := ob h; obtain ⟨v_45, hv_45, h⟩ := h
  by_cases c_47 : v_45 = 7
  · skip
    replace h := (if_pos c_47).symm.trans h
    replace h := ob h; obtain ⟨w_49, hw_49, h⟩ := h
    replace h := ob h; obtain ⟨cs_48, hv_48, h⟩ := h
    obtain ⟨qk_48, qm_48⟩ := k_of (mo_c_X9_readGroups F cs1 u0 u2 cs_48 hv_48)
    obtain ⟨k9, m9⟩ := mo_c_X9_readSelect_b129 F T hM_X9_readQuery hM_X9_readSelect hM_X9_readSources hM_X9_readSource cs_48 u0 u1 u2 cs9 r9 h
    exact ⟨by omega, by omega⟩
  · skip
    replace h := (if_neg c_47).symm.trans h
    obtain ⟨k9, m9⟩ := mo_c_X9_readSelect_b129 F T hM_X9_readQuery hM_X9_readSelect hM_X9_readSources hM_X9_readSource cs1 u0 u1 u2 cs9 r9 h
    exact ⟨by omega, by omega⟩
theorem mo_c_X9_readSelect_b93 (F : Nat) (T : TC_X9_readQuery) (hM_X9_readQuery : ∀ (cs : CS) (x0 : Nat) (cs9 : CS) (r9 : Nat), T.1 cs x0 = some (cs9, r9) → kK cs ≤ kK cs9 ∧ kM cs ≤ kM cs9) (hM_X9_readSelect : ∀ (cs : CS) (x0 : Nat) (cs9 : CS) (r9 : Nat), T.2.1 cs x0 = some (cs9, r9) → kK cs ≤ kK cs9 ∧ kM cs ≤ kM cs9) (hM_X9_readSources : ∀ (cs : CS) (x0 : Nat) (x1 : Nat) (cs9 : CS), T.2.2.1 cs x0 x1 = some cs9 → kK cs ≤ kK cs9 ∧ kM cs ≤ kM cs9) (hM_X9_readSource : ∀ (cs : CS) (x0 : Nat) (cs9 : CS) (r9 : Nat), T.2.2.2 cs x0 = some (cs9, r9) → kK cs ≤ kK cs9 ∧ kM cs ≤ kM cs9) (cs1 : CS) (u0 : Nat) (u1 : Option Nat) (u2 : Nat) (cs9 : CS) (r9 : Nat) (h : c_X9_readSelect_b93 F T cs1 u0 u1 u2 = some (cs9, r9)) : kK cs1 ≤ kK cs9 ∧ kM cs1 ≤ kM cs9 := by
  unfold c_X9_readSelect_b93 at h
  replace h := ob h; obtain ⟨cs_45, hv_45, h⟩ := h
  obtain ⟨qk_45, qm_45⟩ := pI_k hv_45
  replace h := ob h; obtain ⟨w_47, hw_47, h⟩ := h
  replace h := ob h; obtain ⟨z_46, hv_46, h⟩ := h
  obtain ⟨qk_46, qm_46⟩ := k_of (mo_c_X9_accept F cs_45 u0 6 z_46.1 z_46.2 hv_46)
  by_cases c_48 : z_46.2 = 0
  · skip
    replace h := (if_pos c_48).symm.trans h
    obtain ⟨k9, m9⟩ := mo_c_X9_readSelect_b115 F T hM_X9_readQuery hM_X9_readSelect hM_X9_readSources hM_X9_readSource z_46.1 u0 u1 u2 cs9 r9 h
    exact ⟨by omega, by omega⟩
  · skip
    replace h := (if_neg c_48).symm.trans h
    replace h := ob h; obtain ⟨w_50, hw_50, h⟩ := h
    replace h := ob h; obtain ⟨z_49, hv_49, h⟩ := h
    obtain ⟨qk_49, qm_49⟩ := k_of (mo_c_X9_readExpr F 300 z_46.1 u0 z_49.1 z_49.2 hv_49)
    replace h := ob h; obtain ⟨cs_51, hv_51, h⟩ := h
    obtain ⟨qk_51, qm_51⟩ := pI_k hv_51
    obtain ⟨k9, m9⟩ := mo_c_X9_readSelect_b115 F T hM_X9_readQuery hM_X9_readSelect hM_X9_readSources hM_X9_readSource cs_51 u0 u1 u2 cs9 r9 h
    exact ⟨by omega, by omega⟩
theorem mo_c_X9_readSelect_b83 (F : Nat) (T : TC_X9_readQuery) (hM_X9_readQuery : ∀ (cs : CS) (x0 : Nat) (cs9 : CS) (r9 : Nat), T.1 cs x0 = some (cs9, r9) → kK cs ≤ kK cs9 ∧ kM cs ≤ kM cs9) (hM_X9_readSelect : ∀ (cs : CS) (x0 : Nat) (cs9 : CS) (r9 : Nat), T.2.1 cs x0 = some (cs9, r9) → kK cs ≤ kK cs9 ∧ kM cs ≤ kM cs9) (hM_X9_readSources : ∀ (cs : CS) (x0 : Nat) (x1 : Nat) (cs9 : CS), T.2.2.1 cs x0 x1 = some cs9 → kK cs ≤ kK cs9 ∧ kM cs ≤ kM cs9) (hM_X9_readSource : ∀ (cs : CS) (x0 : Nat) (cs9 : CS) (r9 : Nat), T.2.2.2 cs x0 = some (cs9, r9) → kK cs ≤ kK cs9 ∧ kM cs ≤ kM cs9) (cs1 : CS) (u0 : Nat) (u1 : Option Nat) (u2 : Nat) (cs9 : CS) (r9 : Nat) (h : c_X9_readSelect_b83 F T cs1 u0 u1 u2 = some (cs9, r9)) : kK cs1 ≤ kK cs9 ∧ kM cs1 ≤ kM cs9 := by
  unfold c_X9_readSelect_b83 at h
  replace h := ob h; obtain ⟨w_46, hw_46, h⟩ := h
  replace h := ob h; obtain ⟨cs_45, hv_45, h⟩ := h
  obtain ⟨qk_45, qm_45⟩ := k_of (mo_c_X9_expect F cs1 u0 2 cs_45 hv_45)
  replace h := ob h; obtain ⟨w_48, hw_48, h⟩ := h
  replace h := ob h; obtain ⟨cs_47, hv_47, h⟩ := h
  obtain ⟨qk_47, qm_47⟩ := hM_X9_readSources cs_45 u0 u2 cs_47 hv_47
  obtain ⟨k9, m9⟩ := mo_c_X9_readSelect_b93 F T hM_X9_readQuery hM_X9_readSelect hM_X9_readSources hM_X9_readSource cs_47 u0 u1 u2 cs9 r9 h
  exact ⟨by omega, by omega⟩
theorem mo_c_X9_readSelect_L50 (F : Nat) (T : TC_X9_readQuery) (hM_X9_readQuery : ∀ (cs : CS) (x0 : Nat) (cs9 : CS) (r9 : Nat), T.1 cs x0 = some (cs9, r9) → kK cs ≤ kK cs9 ∧ kM cs ≤ kM cs9) (hM_X9_readSelect : ∀ (cs : CS) (x0 : Nat) (cs9 : CS) (r9 : Nat), T.2.1 cs x0 = some (cs9, r9) → kK cs ≤ kK cs9 ∧ kM cs ≤ kM cs9) (hM_X9_readSources : ∀ (cs : CS) (x0 : Nat) (x1 : Nat) (cs9 : CS), T.2.2.1 cs x0 x1 = some cs9 → kK cs ≤ kK cs9 ∧ kM cs ≤ kM cs9) (hM_X9_readSource : ∀ (cs : CS) (x0 : Nat) (cs9 : CS) (r9 : Nat), T.2.2.2 cs x0 = some (cs9, r9) → kK cs ≤ kK cs9 ∧ kM cs ≤ kM cs9) : ∀ (lf_50 : Nat) (cs1 : CS) (u0 : Nat) (u1 : Option Nat) (u2 : Nat) (u3 : Int32) (u4 : Int32) (cs9 : CS) (r9 : Nat), c_X9_readSelect_L50 F T lf_50 cs1 u0 u1 u2 u3 u4 = some (cs9, r9) → kK cs1 ≤ kK cs9 ∧ kM cs1 ≤ kM cs9 := by
  intro lf_50
  induction lf_50 with
  | zero => intro cs1 u0 u1 u2 u3 u4 cs9 r9 h; cases (show (none : Option (CS × Nat)) = _ from h)
  | succ lf_50 ih_50 =>
    intro cs1 u0 u1 u2 u3 u4 cs9 r9 h
    rw [c_X9_readSelect_L50] at h
    by_cases c_45 : 2000 ≤ u4
    · skip
      replace h := (if_pos c_45).symm.trans h
      obtain ⟨k9, m9⟩ := mo_c_X9_readSelect_b83 F T hM_X9_readQuery hM_X9_readSelect hM_X9_readSources hM_X9_readSource cs1 u0 u1 u2 cs9 r9 h
      exact ⟨by omega, by omega⟩
    · skip
      replace h := (if_neg c_45).symm.trans h
      by_cases c_46 : u3 = 0
      · skip
        replace h := (if_pos c_46).symm.trans h
        obtain ⟨k9, m9⟩ := mo_c_X9_readSelect_b83 F T hM_X9_readQuery hM_X9_readSelect hM_X9_readSources hM_X9_readSource cs1 u0 u1 u2 cs9 r9 h
        exact ⟨by omega, by omega⟩
      · skip
        replace h := (if_neg c_46).symm.trans h
        replace h := ob h; obtain ⟨v_47, hv_47, h⟩ := h
        replace h := ob h; obtain ⟨i_48, hi_48, h⟩ := h
        subst hi_48
        replace h := ob h; obtain ⟨w_50, hw_50, h⟩ := h
        replace h := ob h; obtain ⟨cs_49, hv_49, h⟩ := h
        obtain ⟨qk_49, qm_49⟩ := k_of (mo_c_X9_readItem F cs1 u0 i_48 cs_49 hv_49)
        replace h := ob h; obtain ⟨w_52, hw_52, h⟩ := h
        replace h := ob h; obtain ⟨z_51, hv_51, h⟩ := h
        obtain ⟨qk_51, qm_51⟩ := k_of (mo_c_X9_accept F cs_49 u0 43 z_51.1 z_51.2 hv_51)
        obtain ⟨k9, m9⟩ := ih_50 z_51.1 u0 u1 u2 z_51.2 (u4 + 1) cs9 r9 h
        exact ⟨by omega, by omega⟩
theorem mo_c_X9_readSelect_b12 (F : Nat) (T : TC_X9_readQuery) (hM_X9_readQuery : ∀ (cs : CS) (x0 : Nat) (cs9 : CS) (r9 : Nat), T.1 cs x0 = some (cs9, r9) → kK cs ≤ kK cs9 ∧ kM cs ≤ kM cs9) (hM_X9_readSelect : ∀ (cs : CS) (x0 : Nat) (cs9 : CS) (r9 : Nat), T.2.1 cs x0 = some (cs9, r9) → kK cs ≤ kK cs9 ∧ kM cs ≤ kM cs9) (hM_X9_readSources : ∀ (cs : CS) (x0 : Nat) (x1 : Nat) (cs9 : CS), T.2.2.1 cs x0 x1 = some cs9 → kK cs ≤ kK cs9 ∧ kM cs ≤ kM cs9) (hM_X9_readSource : ∀ (cs : CS) (x0 : Nat) (cs9 : CS) (r9 : Nat), T.2.2.2 cs x0 = some (cs9, r9) → kK cs ≤ kK cs9 ∧ kM cs ≤ kM cs9) (cs1 : CS) (u0 : Nat) (u1 : Option Nat) (y0 : Nat) (cs9 : CS) (r9 : Nat) (h : c_X9_readSelect_b12 F T cs1 u0 u1 y0 = some (cs9, r9)) : kK cs1 ≤ kK cs9 ∧ kM cs1 ≤ kM cs9 := by
  unfold c_X9_readSelect_b12 at h
  replace h := ob h; obtain ⟨cs_45, hv_45, h⟩ := h
  obtain ⟨qk_45, qm_45⟩ := pR_k hv_45
  replace h := ob h; obtain ⟨w_47, hw_47, h⟩ := h
  replace h := ob h; obtain ⟨cs_46, hv_46, h⟩ := h
  obtain ⟨qk_46, qm_46⟩ := k_of (mo_c_X9_expect F cs_45 u0 0 cs_46 hv_46)
  replace h := ob h; obtain ⟨w_49, hw_49, h⟩ := h
  replace h := ob h; obtain ⟨v_48, hv_48, h⟩ := h
  replace h := ob h; obtain ⟨cs_50, hv_50, h⟩ := h
  obtain ⟨qk_50, qm_50⟩ := pI_k hv_50
  replace h := ob h; obtain ⟨w_52, hw_52, h⟩ := h
  replace h := ob h; obtain ⟨z_51, hv_51, h⟩ := h
  obtain ⟨qk_51, qm_51⟩ := k_of (mo_c_X9_accept F cs_50 u0 1 z_51.1 z_51.2 hv_51)
  replace h := ob h; obtain ⟨w_54, hw_54, h⟩ := h
  replace h := ob h; obtain ⟨cs_53, hv_53, h⟩ := h
  obtain ⟨qk_53, qm_53⟩ := pI_k hv_53
  replace h := ob h; obtain ⟨cs_55, hv_55, h⟩ := h
  obtain ⟨qk_55, qm_55⟩ := pI_k hv_55
  obtain ⟨k9, m9⟩ := mo_c_X9_readSelect_L50 F T hM_X9_readQuery hM_X9_readSelect hM_X9_readSources hM_X9_readSource F cs_55 u0 u1 y0 1 0 cs9 r9 h
  exact ⟨by omega, by omega⟩
theorem mo_c_X9_readSelect_b8 (F : Nat) (T : TC_X9_readQuery) (hM_X9_readQuery : ∀ (cs : CS) (x0 : Nat) (cs9 : CS) (r9 : Nat), T.1 cs x0 = some (cs9, r9) → kK cs ≤ kK cs9 ∧ kM cs ≤ kM cs9) (hM_X9_readSelect : ∀ (cs : CS) (x0 : Nat) (cs9 : CS) (r9 : Nat), T.2.1 cs x0 = some (cs9, r9) → kK cs ≤ kK cs9 ∧ kM cs ≤ kM cs9) (hM_X9_readSources : ∀ (cs : CS) (x0 : Nat) (x1 : Nat) (cs9 : CS), T.2.2.1 cs x0 x1 = some cs9 → kK cs ≤ kK cs9 ∧ kM cs ≤ kM cs9) (hM_X9_readSource : ∀ (cs : CS) (x0 : Nat) (cs9 : CS) (r9 : Nat), T.2.2.2 cs x0 = some (cs9, r9) → kK cs ≤ kK cs9 ∧ kM cs ≤ kM cs9) (cs1 : CS) (u0 : Nat) (u1 : Option Nat) (y0 : Nat) (cs9 : CS) (r9 : Nat) (h : c_X9_readSelect_b8 F T cs1 u0 u1 y0 = some (cs9, r9)) : kK cs1 ≤ kK cs9 ∧ kM cs1 ≤ kM cs9 := by
  unfold c_X9_readSelect_b8 at h
  replace h := ob h; obtain ⟨cs_45, hv_45, h⟩ := h
  obtain ⟨qk_45, qm_45⟩ := mo_c_X5_init F cs1 y0 cs_45 hv_45
  obtain ⟨k9, m9⟩ := mo_c_X9_readSelect_b12 F T hM_X9_readQuery hM_X9_readSelect hM_X9_readSources hM_X9_readSource cs_45 u0 u1 y0 cs9 r9 h
  exact ⟨by omega, by omega⟩
theorem mo_cb_X9_readSelect (F : Nat) (T : TC_X9_readQuery) (hM_X9_readQuery : ∀ (cs : CS) (x0 : Nat) (cs9 : CS) (r9 : Nat), T.1 cs x0 = some (cs9, r9) → kK cs ≤ kK cs9 ∧ kM cs ≤ kM cs9) (hM_X9_readSelect : ∀ (cs : CS) (x0 : Nat) (cs9 : CS) (r9 : Nat), T.2.1 cs x0 = some (cs9, r9) → kK cs ≤ kK cs9 ∧ kM cs ≤ kM cs9) (hM_X9_readSources : ∀ (cs : CS) (x0 : Nat) (x1 : Nat) (cs9 : CS), T.2.2.1 cs x0 x1 = some cs9 → kK cs ≤ kK cs9 ∧ kM cs ≤ kM cs9) (hM_X9_readSource : ∀ (cs : CS) (x0 : Nat) (cs9 : CS) (r9 : Nat), T.2.2.2 cs x0 = some (cs9, r9) → kK cs ≤ kK cs9 ∧ kM cs ≤ kM cs9) (cs : CS) (x0 : Nat) (cs9 : CS) (r9 : Nat) (h : cb_X9_readSelect F T cs x0 = some (cs9, r9)) : kK cs ≤ kK cs9 ∧ kM cs ≤ kM cs9 := by
  unfold cb_X9_readSelect at h
  replace h := ob h; obtain ⟨v_45, hv_45, h⟩ := h
  replace h := ob h; obtain ⟨cs_46, hv_46, h⟩ := h
  obtain ⟨qk_46, qm_46⟩ := nwO_k hv_46
  obtain ⟨k9, m9⟩ := mo_c_X9_readSelect_b8 F T hM_X9_readQuery hM_X9_readSelect hM_X9_readSources hM_X9_readSource cs_46 x0 v_45 (kK cs) cs9 r9 h
  exact ⟨by omega, by omega⟩
theorem mo_c_X9_readSources_b100 (F : Nat) (T : TC_X9_readQuery) (hM_X9_readQuery : ∀ (cs : CS) (x0 : Nat) (cs9 : CS) (r9 : Nat), T.1 cs x0 = some (cs9, r9) → kK cs ≤ kK cs9 ∧ kM cs ≤ kM cs9) (hM_X9_readSelect : ∀ (cs : CS) (x0 : Nat) (cs9 : CS) (r9 : Nat), T.2.1 cs x0 = some (cs9, r9) → kK cs ≤ kK cs9 ∧ kM cs ≤ kM cs9) (hM_X9_readSources : ∀ (cs : CS) (x0 : Nat) (x1 : Nat) (cs9 : CS), T.2.2.1 cs x0 x1 = some cs9 → kK cs ≤ kK cs9 ∧ kM cs ≤ kM cs9) (hM_X9_readSource : ∀ (cs : CS) (x0 : Nat) (cs9 : CS) (r9 : Nat), T.2.2.2 cs x0 = some (cs9, r9) → kK cs ≤ kK cs9 ∧ kM cs ≤ kM cs9) (cs1 : CS) (cs9 : CS) (h : c_X9_readSources_b100 F T cs1 = some cs9) : kK cs1 ≤ kK cs9 ∧ kM cs1 ≤ kM cs9 := by
  unfold c_X9_readSources_b100 at h
  have h9 := Option.some.inj h
  have k9 := congrArg kK h9; have m9 := congrArg kM h9; exact ⟨by omega, by omega⟩
theorem mo_c_X9_readSources_b54 (F : Nat) (T : TC_X9_readQuery) (hM_X9_readQuery : ∀ (cs : CS) (x0 : Nat) (cs9 : CS) (r9 : Nat), T.1 cs x0 = some (cs9, r9) → kK cs ≤ kK cs9 ∧ kM cs ≤ kM cs9) (hM_X9_readSelect : ∀ (cs : CS) (x0 : Nat) (cs9 : CS) (r9 : Nat), T.2.1 cs x0 = some (cs9, r9) → kK cs ≤ kK cs9 ∧ kM cs ≤ kM cs9) (hM_X9_readSources : ∀ (cs : CS) (x0 : Nat) (x1 : Nat) (cs9 : CS), T.2.2.1 cs x0 x1 = some cs9 → kK cs ≤ kK cs9 ∧ kM cs ≤ kM cs9) (hM_X9_readSource : ∀ (cs : CS) (x0 : Nat) (cs9 : CS) (r9 : Nat), T.2.2.2 cs x0 = some (cs9, r9) → kK cs ≤ kK cs9 ∧ kM cs ≤ kM cs9) (rc10 : CS → Nat → Nat → Int32 → Option CS) (hrc10 : ∀ (cs1 : CS) (u0 : Nat) (u1 : Nat) (u2 : Int32) (cs9 : CS), rc10 cs1 u0 u1 u2 = some cs9 → kK cs1 ≤ kK cs9 ∧ kM cs1 ≤ kM cs9) (cs1 : CS) (u0 : Nat) (u1 : Nat) (u2 : Int32) (u3 : Int32) (u4 : Int32) (y0 : Nat) (cs9 : CS) (h : c_X9_readSources_b54 F T rc10 cs1 u0 u1 u2 u3 u4 y0 = some cs9) : kK cs1 ≤ kK cs9 ∧ kM cs1 ≤ kM cs9 := by
  unfold c_X9_readSources_b54 at h
  replace h := ob h; obtain ⟨w_28, hw_28, h⟩ := h
  replace h := ob h; obtain ⟨cs_27, hv_27, h⟩ := h
  obtain ⟨qk_27, qm_27⟩ := pI_k hv_27
  replace h := ob h; obtain ⟨cs_29, hv_29, h⟩ := h
  obtain ⟨qk_29, qm_29⟩ := pI_k hv_29
  replace h := ob h; obtain ⟨w_31, hw_31, h⟩ := h
  replace h := ob h; obtain ⟨cs_30, hv_30, h⟩ := h
  obtain ⟨qk_30, qm_30⟩ := k_of (mo_c_X9_expect F cs_29 u0 5 cs_30 hv_30)
  replace h := ob h; obtain ⟨cs_32, hv_32, h⟩ := h
  obtain ⟨qk_32, qm_32⟩ := pI_k hv_32
  replace h := ob h; obtain ⟨w_34, hw_34, h⟩ := h
  replace h := ob h; obtain ⟨z_33, hv_33, h⟩ := h
  obtain ⟨qk_33, qm_33⟩ := k_of (mo_c_X9_readExpr F 300 cs_32 u0 z_33.1 z_33.2 hv_33)
  replace h := ob h; obtain ⟨cs_35, hv_35, h⟩ := h
  obtain ⟨qk_35, qm_35⟩ := pI_k hv_35
  replace h := ob h; obtain ⟨cs_36, hv_36, h⟩ := h
  obtain ⟨qk_36, qm_36⟩ := k_of (mo_c_X9_addSource F cs_35 u1 y0 cs_36 hv_36)
  obtain ⟨k9, m9⟩ := hrc10 cs_36 u0 u1 (u2 + 1) cs9 h
  exact ⟨by omega, by omega⟩
theorem mo_c_X9_readSources_b33 (F : Nat) (T : TC_X9_readQuery) (hM_X9_readQuery : ∀ (cs : CS) (x0 : Nat) (cs9 : CS) (r9 : Nat), T.1 cs x0 = some (cs9, r9) → kK cs ≤ kK cs9 ∧ kM cs ≤ kM cs9) (hM_X9_readSelect : ∀ (cs : CS) (x0 : Nat) (cs9 : CS) (r9 : Nat), T.2.1 cs x0 = some (cs9, r9) → kK cs ≤ kK cs9 ∧ kM cs ≤ kM cs9) (hM_X9_readSources : ∀ (cs : CS) (x0 : Nat) (x1 : Nat) (cs9 : CS), T.2.2.1 cs x0 x1 = some cs9 → kK cs ≤ kK cs9 ∧ kM cs ≤ kM cs9) (hM_X9_readSource : ∀ (cs : CS) (x0 : Nat) (cs9 : CS) (r9 : Nat), T.2.2.2 cs x0 = some (cs9, r9) → kK cs ≤ kK cs9 ∧ kM cs ≤ kM cs9) (rc10 : CS → Nat → Nat → Int32 → Option CS) (hrc10 : ∀ (cs1 : CS) (u0 : Nat) (u1 : Nat) (u2 : Int32) (cs9 : CS), rc10 cs1 u0 u1 u2 = some cs9 → kK cs1 ≤ kK cs9 ∧ kM cs1 ≤ kM cs9) (cs1 : CS) (u0 : Nat) (u1 : Nat) (u2 : Int32) (cs9 : CS) (h : c_X9_readSources_b33 F T rc10 cs1 u0 u1 u2 = some cs9) : kK cs1 ≤ kK cs9 ∧ kM cs1 ≤ kM cs9 := by
  unfold c_X9_readSources_b33 at h
  replace h := ob h; obtain ⟨w_28, hw_28, h⟩ := h
  replace h := ob h; obtain ⟨z_27, hv_27, h⟩ := h
  obtain ⟨qk_27, qm_27⟩ := k_of (mo_c_X9_accept F cs1 u0 4 z_27.1 z_27.2 hv_27)
  replace h := ob h; obtain ⟨w_30, hw_30, h⟩ := h
  replace h := ob h; obtain ⟨v_29, hv_29, h⟩ := h
  replace h := ob h; obtain ⟨w_32, hw_32, h⟩ := h
  replace h := ob h; obtain ⟨cs_31, hv_31, h⟩ := h
  obtain ⟨qk_31, qm_31⟩ := k_of (mo_c_X9_expect F z_27.1 u0 3 cs_31 hv_31)
  replace h := ob h; obtain ⟨w_34, hw_34, h⟩ := h
  replace h := ob h; obtain ⟨z_33, hv_33, h⟩ := h
  obtain ⟨qk_33, qm_33⟩ := hM_X9_readSource cs_31 u0 z_33.1 z_33.2 hv_33
  obtain ⟨k9, m9⟩ := mo_c_X9_readSources_b54 F T hM_X9_readQuery hM_X9_readSelect hM_X9_readSources hM_X9_readSource rc10 hrc10 z_33.1 u0 u1 u2 z_27.2 v_29 z_33.2 cs9 h
  exact ⟨by omega, by omega⟩
theorem mo_c_X9_readSources_L10 (F : Nat) (T : TC_X9_readQuery) (hM_X9_readQuery : ∀ (cs : CS) (x0 : Nat) (cs9 : CS) (r9 : Nat), T.1 cs x0 = some (cs9, r9) → kK cs ≤ kK cs9 ∧ kM cs ≤ kM cs9) (hM_X9_readSelect : ∀ (cs : CS) (x0 : Nat) (cs9 : CS) (r9 : Nat), T.2.1 cs x0 = some (cs9, r9) → kK cs ≤ kK cs9 ∧ kM cs ≤ kM cs9) (hM_X9_readSources : ∀ (cs : CS) (x0 : Nat) (x1 : Nat) (cs9 : CS), T.2.2.1 cs x0 x1 = some cs9 → kK cs ≤ kK cs9 ∧ kM cs ≤ kM cs9) (hM_X9_readSource : ∀ (cs : CS) (x0 : Nat) (cs9 : CS) (r9 : Nat), T.2.2.2 cs x0 = some (cs9, r9) → kK cs ≤ kK cs9 ∧ kM cs ≤ kM cs9) : ∀ (lf_10 : Nat) (cs1 : CS) (u0 : Nat) (u1 : Nat) (u2 : Int32) (cs9 : CS), c_X9_readSources_L10 F T lf_10 cs1 u0 u1 u2 = some cs9 → kK cs1 ≤ kK cs9 ∧ kM cs1 ≤ kM cs9 := by
  intro lf_10
  induction lf_10 with
  | zero => intro cs1 u0 u1 u2 cs9 h; cases (show (none : Option CS) = _ from h)
  | succ lf_10 ih_10 =>
    intro cs1 u0 u1 u2 cs9 h
    rw [c_X9_readSources_L10] at h
    by_cases c_27 : 2000 ≤ u2
    · skip
      replace h := (if_pos c_27).symm.trans h
      obtain ⟨k9, m9⟩ := mo_c_X9_readSources_b100 F T hM_X9_readQuery hM_X9_readSelect hM_X9_readSources hM_X9_readSource cs1 cs9 h
      exact ⟨by omega, by omega⟩
    · skip
      replace h := (if_neg c_27).symm.trans h
      replace h := ob h; obtain ⟨w_29, hw_29, h⟩ := h
      replace h := ob h; obtain ⟨v_28, hv_28, h⟩ := h
      by_cases c_30 : v_28 = 3
      · skip
        replace h := (if_pos c_30).symm.trans h
        obtain ⟨k9, m9⟩ := mo_c_X9_readSources_b33 F T hM_X9_readQuery hM_X9_readSelect hM_X9_readSources hM_X9_readSource (c_X9_readSources_L10 F T lf_10) ih_10 cs1 u0 u1 u2 cs9 h
        exact ⟨by omega, by omega⟩
      · skip
        replace h := (if_neg c_30).symm.trans h
        replace h := ob h; obtain ⟨w_32, hw_32, h⟩ := h
        replace h := ob h; obtain ⟨v_31, hv_31, h⟩ := h
        by_cases c_33 : v_31 = 4
        · skip
          replace h := (if_pos c_33).symm.trans h
          obtain ⟨k9, m9⟩ := mo_c_X9_readSources_b33 F T hM_X9_readQuery hM_X9_readSelect hM_X9_readSources hM_X9_readSource (c_X9_readSources_L10 F T lf_10) ih_10 cs1 u0 u1 u2 cs9 h
          exact ⟨by omega, by omega⟩
        · skip
          replace h := (if_neg c_33).symm.trans h
          obtain ⟨k9, m9⟩ := mo_c_X9_readSources_b100 F T hM_X9_readQuery hM_X9_readSelect hM_X9_readSources hM_X9_readSource cs1 cs9 h
          exact ⟨by omega, by omega⟩
theorem mo_c_X9_readSources_b5 (F : Nat) (T : TC_X9_readQuery) (hM_X9_readQuery : ∀ (cs : CS) (x0 : Nat) (cs9 : CS) (r9 : Nat), T.1 cs x0 = some (cs9, r9) → kK cs ≤ kK cs9 ∧ kM cs ≤ kM cs9) (hM_X9_readSelect : ∀ (cs : CS) (x0 : Nat) (cs9 : CS) (r9 : Nat), T.2.1 cs x0 = some (cs9, r9) → kK cs ≤ kK cs9 ∧ kM cs ≤ kM cs9) (hM_X9_readSources : ∀ (cs : CS) (x0 : Nat) (x1 : Nat) (cs9 : CS), T.2.2.1 cs x0 x1 = some cs9 → kK cs ≤ kK cs9 ∧ kM cs ≤ kM cs9) (hM_X9_readSource : ∀ (cs : CS) (x0 : Nat) (cs9 : CS) (r9 : Nat), T.2.2.2 cs x0 = some (cs9, r9) → kK cs ≤ kK cs9 ∧ kM cs ≤ kM cs9) (cs1 : CS) (u0 : Nat) (u1 : Nat) (y0 : Nat) (y1 : Nat) (cs9 : CS) (h : c_X9_readSources_b5 F T cs1 u0 u1 y0 y1 = some cs9) : kK cs1 ≤ kK cs9 ∧ kM cs1 ≤ kM cs9 := by
  unfold c_X9_readSources_b5 at h
  replace h := ob h; obtain ⟨cs_27, hv_27, h⟩ := h
  obtain ⟨qk_27, qm_27⟩ := k_of (mo_c_X9_addSource F cs1 y1 y0 cs_27 hv_27)
  obtain ⟨k9, m9⟩ := mo_c_X9_readSources_L10 F T hM_X9_readQuery hM_X9_readSelect hM_X9_readSources hM_X9_readSource F cs_27 u0 u1 0 cs9 h
  exact ⟨by omega, by omega⟩
theorem mo_cb_X9_readSources (F : Nat) (T : TC_X9_readQuery) (hM_X9_readQuery : ∀ (cs : CS) (x0 : Nat) (cs9 : CS) (r9 : Nat), T.1 cs x0 = some (cs9, r9) → kK cs ≤ kK cs9 ∧ kM cs ≤ kM cs9) (hM_X9_readSelect : ∀ (cs : CS) (x0 : Nat) (cs9 : CS) (r9 : Nat), T.2.1 cs x0 = some (cs9, r9) → kK cs ≤ kK cs9 ∧ kM cs ≤ kM cs9) (hM_X9_readSources : ∀ (cs : CS) (x0 : Nat) (x1 : Nat) (cs9 : CS), T.2.2.1 cs x0 x1 = some cs9 → kK cs ≤ kK cs9 ∧ kM cs ≤ kM cs9) (hM_X9_readSource : ∀ (cs : CS) (x0 : Nat) (cs9 : CS) (r9 : Nat), T.2.2.2 cs x0 = some (cs9, r9) → kK cs ≤ kK cs9 ∧ kM cs ≤ kM cs9) (cs : CS) (x0 : Nat) (x1 : Nat) (cs9 : CS) (h : cb_X9_readSources F T cs x0 x1 = some cs9) : kK cs ≤ kK cs9 ∧ kM cs ≤ kM cs9 := by
  unfold cb_X9_readSources at h
  replace h := ob h; obtain ⟨w_28, hw_28, h⟩ := h
  replace h := ob h; obtain ⟨z_27, hv_27, h⟩ := h
  obtain ⟨qk_27, qm_27⟩ := hM_X9_readSource cs x0 z_27.1 z_27.2 hv_27
  obtain ⟨k9, m9⟩ := mo_c_X9_readSources_b5 F T hM_X9_readQuery hM_X9_readSelect hM_X9_readSources hM_X9_readSource z_27.1 x0 x1 z_27.2 x1 cs9 h
  exact ⟨by omega, by omega⟩
theorem mo_c_X9_readSource_b124 (F : Nat) (T : TC_X9_readQuery) (hM_X9_readQuery : ∀ (cs : CS) (x0 : Nat) (cs9 : CS) (r9 : Nat), T.1 cs x0 = some (cs9, r9) → kK cs ≤ kK cs9 ∧ kM cs ≤ kM cs9) (hM_X9_readSelect : ∀ (cs : CS) (x0 : Nat) (cs9 : CS) (r9 : Nat), T.2.1 cs x0 = some (cs9, r9) → kK cs ≤ kK cs9 ∧ kM cs ≤ kM cs9) (hM_X9_readSources : ∀ (cs : CS) (x0 : Nat) (x1 : Nat) (cs9 : CS), T.2.2.1 cs x0 x1 = some cs9 → kK cs ≤ kK cs9 ∧ kM cs ≤ kM cs9) (hM_X9_readSource : ∀ (cs : CS) (x0 : Nat) (cs9 : CS) (r9 : Nat), T.2.2.2 cs x0 = some (cs9, r9) → kK cs ≤ kK cs9 ∧ kM cs ≤ kM cs9) (cs1 : CS) (u1 : Nat) (cs9 : CS) (r9 : Nat) (h : c_X9_readSource_b124 F T cs1 u1 = some (cs9, r9)) : kK cs1 ≤ kK cs9 ∧ kM cs1 ≤ kM cs9 := by
  unfold c_X9_readSource_b124 at h
  have h9 := (Prod.mk.inj (Option.some.inj h)).1
  have k9 := congrArg kK h9; have m9 := congrArg kM h9; exact ⟨by omega, by omega⟩
theorem mo_c_X9_readSource_b75 (F : Nat) (T : TC_X9_readQuery) (hM_X9_readQuery : ∀ (cs : CS) (x0 : Nat) (cs9 : CS) (r9 : Nat), T.1 cs x0 = some (cs9, r9) → kK cs ≤ kK cs9 ∧ kM cs ≤ kM cs9) (hM_X9_readSelect : ∀ (cs : CS) (x0 : Nat) (cs9 : CS) (r9 : Nat), T.2.1 cs x0 = some (cs9, r9) → kK cs ≤ kK cs9 ∧ kM cs ≤ kM cs9) (hM_X9_readSources : ∀ (cs : CS) (x0 : Nat) (x1 : Nat) (cs9 : CS), T.2.2.1 cs x0 x1 = some cs9 → kK cs ≤ kK cs9 ∧ kM cs ≤ kM cs9) (hM_X9_readSource : ∀ (cs : CS) (x0 : Nat) (cs9 : CS) (r9 : Nat), T.2.2.2 cs x0 = some (cs9, r9) → kK cs ≤ kK cs9 ∧ kM cs ≤ kM cs9) (cs1 : CS) (u0 : Nat) (u1 : Nat) (cs9 : CS) (r9 : Nat) (h : c_X9_readSource_b75 F T cs1 u0 u1 = some (cs9, r9)) : kK cs1 ≤ kK cs9 ∧ kM cs1 ≤ kM cs9 := by
  unfold c_X9_readSource_b75 at h
  replace h := ob h; obtain ⟨w_41, hw_41, h⟩ := h
  replace h := ob h; obtain ⟨cs_40, hv_40, h⟩ := h
  obtain ⟨qk_40, qm_40⟩ := k_of (mo_c_X9_expect F cs1 u0 17 cs_40 hv_40)
  replace h := ob h; obtain ⟨w_43, hw_43, h⟩ := h
  replace h := ob h; obtain ⟨v_42, hv_42, h⟩ := h
  replace h := ob h; obtain ⟨cs_44, hv_44, h⟩ := h
  obtain ⟨qk_44, qm_44⟩ := pI_k hv_44
  replace h := ob h; obtain ⟨w_46, hw_46, h⟩ := h
  replace h := ob h; obtain ⟨z_45, hv_45, h⟩ := h
  obtain ⟨qk_45, qm_45⟩ := k_of (mo_c_X9_readName F cs_44 u0 z_45.1 z_45.2 hv_45)
  replace h := ob h; obtain ⟨cs_47, hv_47, h⟩ := h
  obtain ⟨qk_47, qm_47⟩ := pJ_k hv_47
  replace h := ob h; obtain ⟨v_48, hv_48, h⟩ := h
  cases v_48 with
  | none =>
    replace h := oc_n.symm.trans h
    replace h := ob h; obtain ⟨w_51, hw_51, h⟩ := h
    replace h := ob h; obtain ⟨z_50, hv_50, h⟩ := h
    obtain ⟨qk_50, qm_50⟩ := k_of (mo_c_X9_accept F cs_47 u0 18 z_50.1 z_50.2 hv_50)
    by_cases c_52 : z_50.2 = 0
    · skip
      replace h := (if_pos c_52).symm.trans h
      obtain ⟨k9, m9⟩ := mo_c_X9_readSource_b124 F T hM_X9_readQuery hM_X9_readSelect hM_X9_readSources hM_X9_readSource z_50.1 u1 cs9 r9 h
      exact ⟨by omega, by omega⟩
    · skip
      replace h := (if_neg c_52).symm.trans h
      replace h := ob h; obtain ⟨w_54, hw_54, h⟩ := h
      replace h := ob h; obtain ⟨z_53, hv_53, h⟩ := h
      obtain ⟨qk_53, qm_53⟩ := k_of (mo_c_X9_readNumber F z_50.1 u0 (9223372036854775807) z_53.1 z_53.2 hv_53)
      replace h := ob h; obtain ⟨cs_55, hv_55, h⟩ := h
      obtain ⟨qk_55, qm_55⟩ := pJ_k hv_55
      obtain ⟨k9, m9⟩ := mo_c_X9_readSource_b124 F T hM_X9_readQuery hM_X9_readSelect hM_X9_readSources hM_X9_readSource cs_55 u1 cs9 r9 h
      exact ⟨by omega, by omega⟩
  | some i_49 =>
    replace h := oc_s.symm.trans h
    obtain ⟨k9, m9⟩ := mo_c_X9_readSource_b124 F T hM_X9_readQuery hM_X9_readSelect hM_X9_readSources hM_X9_readSource cs_47 u1 cs9 r9 h
    exact ⟨by omega, by omega⟩
theorem mo_c_X9_readSource_b40 (F : Nat) (T : TC_X9_readQuery) (hM_X9_readQuery : ∀ (cs : CS) (x0 : Nat) (cs9 : CS) (r9 : Nat), T.1 cs x0 = some (cs9, r9) → kK cs ≤ kK cs9 ∧ kM cs ≤ kM cs9) (hM_X9_readSelect : ∀ (cs : CS) (x0 : Nat) (cs9 : CS) (r9 : Nat), T.2.1 cs x0 = some (cs9, r9) → kK cs ≤ kK cs9 ∧ kM cs ≤ kM cs9) (hM_X9_readSources : ∀ (cs : CS) (x0 : Nat) (x1 : Nat) (cs9 : CS), T.2.2.1 cs x0 x1 = some cs9 → kK cs ≤ kK cs9 ∧ kM cs ≤ kM cs9) (hM_X9_readSource : ∀ (cs : CS) (x0 : Nat) (cs9 : CS) (r9 : Nat), T.2.2.2 cs x0 = some (cs9, r9) → kK cs ≤ kK cs9 ∧ kM cs ≤ kM cs9) (cs1 : CS) (u0 : Nat) (u1 : Nat) (y0 : Nat) (y1 : Nat) (cs9 : CS) (r9 : Nat) (h : c_X9_readSource_b40 F T cs1 u0 u1 y0 y1 = some (cs9, r9)) : kK cs1 ≤ kK cs9 ∧ kM cs1 ≤ kM cs9 := by
  unfold c_X9_readSource_b40 at h
  replace h := ob h; obtain ⟨cs_40, hv_40, h⟩ := h
  obtain ⟨qk_40, qm_40⟩ := pR_k hv_40
  replace h := ob h; obtain ⟨w_42, hw_42, h⟩ := h
  replace h := ob h; obtain ⟨v_41, hv_41, h⟩ := h
  replace h := ob h; obtain ⟨cs_43, hv_43, h⟩ := h
  obtain ⟨qk_43, qm_43⟩ := pI_k hv_43
  replace h := ob h; obtain ⟨w_45, hw_45, h⟩ := h
  replace h := ob h; obtain ⟨cs_44, hv_44, h⟩ := h
  obtain ⟨qk_44, qm_44⟩ := k_of (mo_c_X9_expect F cs_43 u0 42 cs_44 hv_44)
  replace h := ob h; obtain ⟨v_46, hv_46, h⟩ := h
  replace h := ob h; obtain ⟨cs_47, hv_47, h⟩ := h
  obtain ⟨qk_47, qm_47⟩ := pI_k hv_47
  obtain ⟨k9, m9⟩ := mo_c_X9_readSource_b75 F T hM_X9_readQuery hM_X9_readSelect hM_X9_readSources hM_X9_readSource cs_47 u0 u1 cs9 r9 h
  exact ⟨by omega, by omega⟩
theorem mo_c_X9_readSource_b7 (F : Nat) (T : TC_X9_readQuery) (hM_X9_readQuery : ∀ (cs : CS) (x0 : Nat) (cs9 : CS) (r9 : Nat), T.1 cs x0 = some (cs9, r9) → kK cs ≤ kK cs9 ∧ kM cs ≤ kM cs9) (hM_X9_readSelect : ∀ (cs : CS) (x0 : Nat) (cs9 : CS) (r9 : Nat), T.2.1 cs x0 = some (cs9, r9) → kK cs ≤ kK cs9 ∧ kM cs ≤ kM cs9) (hM_X9_readSources : ∀ (cs : CS) (x0 : Nat) (x1 : Nat) (cs9 : CS), T.2.2.1 cs x0 x1 = some cs9 → kK cs ≤ kK cs9 ∧ kM cs ≤ kM cs9) (hM_X9_readSource : ∀ (cs : CS) (x0 : Nat) (cs9 : CS) (r9 : Nat), T.2.2.2 cs x0 = some (cs9, r9) → kK cs ≤ kK cs9 ∧ kM cs ≤ kM cs9) (cs1 : CS) (u0 : Nat) (y0 : Nat) (cs9 : CS) (r9 : Nat) (h : c_X9_readSource_b7 F T cs1 u0 y0 = some (cs9, r9)) : kK cs1 ≤ kK cs9 ∧ kM cs1 ≤ kM cs9 := by
  unfold c_X9_readSource_b7 at h
  replace h := ob h; obtain ⟨w_41, hw_41, h⟩ := h
  replace h := ob h; obtain ⟨v_40, hv_40, h⟩ := h
  replace h := ob h; obtain ⟨cs_42, hv_42, h⟩ := h
  obtain ⟨qk_42, qm_42⟩ := pI_k hv_42
  replace h := ob h; obtain ⟨w_44, hw_44, h⟩ := h
  replace h := ob h; obtain ⟨v_43, hv_43, h⟩ := h
  by_cases c_45 : v_43 = 41
  · skip
    replace h := (if_pos c_45).symm.trans h
    replace h := ob h; obtain ⟨w_47, hw_47, h⟩ := h
    replace h := ob h; obtain ⟨cs_46, hv_46, h⟩ := h
    obtain ⟨qk_46, qm_46⟩ := k_of (mo_c_X9_deepen F cs_42 u0 cs_46 hv_46)
    replace h := ob h; obtain ⟨w_49, hw_49, h⟩ := h
    replace h := ob h; obtain ⟨cs_48, hv_48, h⟩ := h
    obtain ⟨qk_48, qm_48⟩ := k_of (mo_c_X9_expect F cs_46 u0 41 cs_48 hv_48)
    replace h := ob h; obtain ⟨w_51, hw_51, h⟩ := h
    replace h := ob h; obtain ⟨z_50, hv_50, h⟩ := h
    obtain ⟨qk_50, qm_50⟩ := hM_X9_readQuery cs_48 u0 z_50.1 z_50.2 hv_50
    obtain ⟨k9, m9⟩ := mo_c_X9_readSource_b40 F T hM_X9_readQuery hM_X9_readSelect hM_X9_readSources hM_X9_readSource z_50.1 u0 y0 z_50.2 y0 cs9 r9 h
    exact ⟨by omega, by omega⟩
  · skip
    replace h := (if_neg c_45).symm.trans h
    replace h := ob h; obtain ⟨w_53, hw_53, h⟩ := h
    replace h := ob h; obtain ⟨cs_52, hv_52, h⟩ := h
    obtain ⟨qk_52, qm_52⟩ := k_of (mo_c_X9_readLeaf F cs_42 u0 y0 cs_52 hv_52)
    obtain ⟨k9, m9⟩ := mo_c_X9_readSource_b75 F T hM_X9_readQuery hM_X9_readSelect hM_X9_readSources hM_X9_readSource cs_52 u0 y0 cs9 r9 h
    exact ⟨by omega, by omega⟩
theorem mo_c_X9_readSource_b3 (F : Nat) (T : TC_X9_readQuery) (hM_X9_readQuery : ∀ (cs : CS) (x0 : Nat) (cs9 : CS) (r9 : Nat), T.1 cs x0 = some (cs9, r9) → kK cs ≤ kK cs9 ∧ kM cs ≤ kM cs9) (hM_X9_readSelect : ∀ (cs : CS) (x0 : Nat) (cs9 : CS) (r9 : Nat), T.2.1 cs x0 = some (cs9, r9) → kK cs ≤ kK cs9 ∧ kM cs ≤ kM cs9) (hM_X9_readSources : ∀ (cs : CS) (x0 : Nat) (x1 : Nat) (cs9 : CS), T.2.2.1 cs x0 x1 = some cs9 → kK cs ≤ kK cs9 ∧ kM cs ≤ kM cs9) (hM_X9_readSource : ∀ (cs : CS) (x0 : Nat) (cs9 : CS) (r9 : Nat), T.2.2.2 cs x0 = some (cs9, r9) → kK cs ≤ kK cs9 ∧ kM cs ≤ kM cs9) (cs1 : CS) (u0 : Nat) (y0 : Nat) (cs9 : CS) (r9 : Nat) (h : c_X9_readSource_b3 F T cs1 u0 y0 = some (cs9, r9)) : kK cs1 ≤ kK cs9 ∧ kM cs1 ≤ kM cs9 := by
  unfold c_X9_readSource_b3 at h
  replace h := ob h; obtain ⟨cs_40, hv_40, h⟩ := h
  obtain ⟨qk_40, qm_40⟩ := mo_c_X6_init F cs1 y0 cs_40 hv_40
  obtain ⟨k9, m9⟩ := mo_c_X9_readSource_b7 F T hM_X9_readQuery hM_X9_readSelect hM_X9_readSources hM_X9_readSource cs_40 u0 y0 cs9 r9 h
  exact ⟨by omega, by omega⟩
theorem mo_cb_X9_readSource (F : Nat) (T : TC_X9_readQuery) (hM_X9_readQuery : ∀ (cs : CS) (x0 : Nat) (cs9 : CS) (r9 : Nat), T.1 cs x0 = some (cs9, r9) → kK cs ≤ kK cs9 ∧ kM cs ≤ kM cs9) (hM_X9_readSelect : ∀ (cs : CS) (x0 : Nat) (cs9 : CS) (r9 : Nat), T.2.1 cs x0 = some (cs9, r9) → kK cs ≤ kK cs9 ∧ kM cs ≤ kM cs9) (hM_X9_readSources : ∀ (cs : CS) (x0 : Nat) (x1 : Nat) (cs9 : CS), T.2.2.1 cs x0 x1 = some cs9 → kK cs ≤ kK cs9 ∧ kM cs ≤ kM cs9) (hM_X9_readSource : ∀ (cs : CS) (x0 : Nat) (cs9 : CS) (r9 : Nat), T.2.2.2 cs x0 = some (cs9, r9) → kK cs ≤ kK cs9 ∧ kM cs ≤ kM cs9) (cs : CS) (x0 : Nat) (cs9 : CS) (r9 : Nat) (h : cb_X9_readSource F T cs x0 = some (cs9, r9)) : kK cs ≤ kK cs9 ∧ kM cs ≤ kM cs9 := by
  unfold cb_X9_readSource at h
  replace h := ob h; obtain ⟨cs_40, hv_40, h⟩ := h
  obtain ⟨qk_40, qm_40⟩ := nwO_k hv_40
  obtain ⟨k9, m9⟩ := mo_c_X9_readSource_b3 F T hM_X9_readQuery hM_X9_readSelect hM_X9_readSources hM_X9_readSource cs_40 x0 (kK cs) cs9 r9 h
  exact ⟨by omega, by omega⟩
def tabc_X9_readQuery (F : Nat) : Nat → TC_X9_readQuery
  | 0 => (fun _ _ => none, fun _ _ => none, fun _ _ _ => none, fun _ _ => none)
  | n + 1 => (cb_X9_readQuery F (tabc_X9_readQuery F n), cb_X9_readSelect F (tabc_X9_readQuery F n), cb_X9_readSources F (tabc_X9_readQuery F n), cb_X9_readSource F (tabc_X9_readQuery F n))
set_option maxHeartbeats 4000000 in
set_option maxRecDepth 100000 in
theorem sba_X9_readQuery (l : Launch) (dC : Nat → ClassId) (dI : Nat → Nat → Nat) (cB cI cJ cZ cS cO : ClassId) (b : Nat) (K V : Nat → Nat) (fz : Value) (F : Nat) (n : Nat) (T : TC_X9_readQuery) (hT_X9_readQuery : ∀ (cs : CS) (x0 : Nat) (cs9 : CS) (r9 : Nat), T.1 cs x0 = some (cs9, r9) → oaR l dC dI cB cI cJ cZ cS cO b K V fz yX9_readQuery (wsOf yX9_readQuery cX9_readQuery 7 (some (.object "StreamQueries$Query"))) (n + 305) [.ref (b + x0)] cs cs9 r9) (hT_X9_readSelect : ∀ (cs : CS) (x0 : Nat) (cs9 : CS) (r9 : Nat), T.2.1 cs x0 = some (cs9, r9) → oaR l dC dI cB cI cJ cZ cS cO b K V fz yX9_readSelect (wsOf yX9_readSelect cX9_readSelect 5 (some (.object "StreamQueries$Select"))) (n + 305) [.ref (b + x0)] cs cs9 r9) (hT_X9_readSources : ∀ (cs : CS) (x0 : Nat) (x1 : Nat) (cs9 : CS), T.2.2.1 cs x0 x1 = some cs9 → oaV l dC dI cB cI cJ cZ cS cO b K V fz yX9_readSources (wsOf yX9_readSources cX9_readSources 6 none) (n + 305) [.ref (b + x0), .ref (b + x1)] cs cs9) (hT_X9_readSource : ∀ (cs : CS) (x0 : Nat) (cs9 : CS) (r9 : Nat), T.2.2.2 cs x0 = some (cs9, r9) → oaR l dC dI cB cI cJ cZ cS cO b K V fz yX9_readSource (wsOf yX9_readSource cX9_readSource 2 (some (.object "StreamQueries$Source"))) (n + 305) [.ref (b + x0)] cs cs9 r9) (cs : CS) (x0 : Nat) (cs9 : CS) (r9 : Nat) (hf : cb_X9_readQuery F T cs x0 = some (cs9, r9)) : oaR l dC dI cB cI cJ cZ cS cO b K V fz yX9_readQuery (wsOf yX9_readQuery cX9_readQuery 7 (some (.object "StreamQueries$Query"))) (n + 1 + 305) [.ref (b + x0)] cs cs9 r9 := by
  obtain ⟨kb9, mb9⟩ := mo_cb_X9_readQuery F T (fun c_ x_0 z_ r_ h_ => (hT_X9_readQuery c_ x_0 z_ r_ h_).1) (fun c_ x_0 z_ r_ h_ => (hT_X9_readSelect c_ x_0 z_ r_ h_).1) (fun c_ x_0 x_1 z_ h_ => (hT_X9_readSources c_ x_0 x_1 z_ h_).1) (fun c_ x_0 z_ r_ h_ => (hT_X9_readSource c_ x_0 z_ r_ h_).1) cs x0 cs9 r9 hf
  refine ⟨⟨kb9, mb9⟩, ?_⟩
  refine Met.ofW (cc := cX9_readQuery) (maxL := 7) (ret := (some (.object "StreamQueries$Query"))) (by decide) rfl ?_
  intro p e s m args below meth c s₁ B hml hv
  obtain ⟨rfl, hsz, hP, hK, hD0, hZ⟩ := hv
  have hx := B.exec
  have hb := B.bytes
  have hr := B.returns
  have hts := atoms_spec (ws := (wsOf yX9_readQuery cX9_readQuery 7 (some (.object "StreamQueries$Query")))) B.pre
  have hown : s.vm.findClass RX9 = some m.cls := findClass_of_methodNamed B.named
  have hlocks := B.notSynchronized
  have hD := hD0.self (sz := b + kK cs)
  generalize hAe : va_A (cW cB cI cJ cZ cS cO b cs) (b + kK cs) = A at hD hZ ⊢
  have hA : ∀ q : Nat, s.heap.size ≤ q → A q := fun q h => by rw [← hAe]; exact Or.inr (by omega)
  have hS : va_S A s.heap s.heap [] := va_S.rf
  have hG : va_S A s.heap s.heap [] := va_S.rf
  have hgz : s.heap.size = b + kK cs := hsz
  have hl := lv_entry ([.ref (b + x0)]) (n := 7) (Nat.le_of_ble_eq_true rfl)
  rw [lg_entry_eq]
  generalize (lg_sl ([.ref (b + x0)]) ++ List.replicate (7 - (lg_sl ([.ref (b + x0)])).length) Slot.unset).toArray = ls at hl ⊢
  have hl : lv_has ls 7 [(0, .ref (b + x0))] := hl
  have B_133 : ∀ (cs1 : CS) (u1 : Nat), c_X9_readQuery_b133 F T cs1 u1 = some (cs9, r9) → kK cs ≤ kK cs1 → kM cs ≤ kM cs1 → ∀ (Gh H : Heap) (locs : List Loc) (ls : Array Slot), va_P (dC, dI) vwCl (cW cB cI cJ cZ cS cO b cs1) H → va_D A (cW cB cI cJ cZ cS cO b cs1) → va_S A s.heap Gh [] → Gh.size = b + kK cs1 → va_S A Gh H locs → lv_has ls 7 [(1, .ref (b + u1))] → W p l e (headSpec (wsOf yX9_readQuery cX9_readQuery 7 (some (.object "StreamQueries$Query"))) ({ frames := n + 1 + 305, cells := kK cs9 - kK cs, slots := kM cs9 - kM cs, locals := 60 * (n + 1 + 305) } : Room)).room s m ([.ref (b + x0)] : List Value).toArray below meth c H locs (kK cs1 - kK cs) (kM cs1 - kM cs) (MQ below (va_Qr (fun (_ : Unit) => True) (fun _ a_ t_ => a_ = b + r9 ∧ va_P (dC, dI) vwCl (cW cB cI cJ cZ cS cO b cs9) t_.heap ∧ va_D A (cW cB cI cJ cZ cS cO b cs9) ∧ b + kK cs9 ≤ t_.heap.size) A) ([.ref (b + x0)] : List Value).toArray s (kK cs9 - kK cs) (kM cs9 - kM cs) A) (F0 m 133 ls []) := by
    intro cs1 u1 h hmk hmm Gh H locs ls hP hD hG hgz hS hl
    obtain ⟨kb9, mb9⟩ := mo_c_X9_readQuery_b133 F T (fun c_ x_0 z_ r_ h_ => (hT_X9_readQuery c_ x_0 z_ r_ h_).1) (fun c_ x_0 z_ r_ h_ => (hT_X9_readSelect c_ x_0 z_ r_ h_).1) (fun c_ x_0 x_1 z_ h_ => (hT_X9_readSources c_ x_0 x_1 z_ h_).1) (fun c_ x_0 z_ r_ h_ => (hT_X9_readSource c_ x_0 z_ r_ h_).1) cs1 u1 cs9 r9 h
    unfold c_X9_readQuery_b133 at h
    refine lv_aload_n hx hb dX9_readQuery_133 rfl (lv_at hl 0 rfl) ?_
    obtain ⟨e1, e2⟩ := Prod.mk.inj (Option.some.inj h)
    rw [e1] at hP hD
    have e3 := congrArg kK e1
    have e4 := congrArg kM e1
    refine W_cnt (c2 := kK cs9 - kK cs) (n2 := kM cs9 - kM cs) (by omega) (by omega) ?_
    exact W.aret (v := .ref (b + u1)) hx hb hr (Or.inl ⟨_, rfl⟩) (Or.inr ⟨_, rfl⟩) (fun t_ ht hW => ⟨⟨(), b + u1, rfl, trivial, by rw [e2], by rw [ht]; exact hP, hD, by rw [ht]; have := hS.1; omega⟩, (hG.comp hS).F ht⟩) (hG.comp hS).2.2 dX9_readQuery_134
  have B_119 : ∀ (cs1 : CS) (u0 : Nat) (u1 : Nat), c_X9_readQuery_b119 F T cs1 u0 u1 = some (cs9, r9) → kK cs ≤ kK cs1 → kM cs ≤ kM cs1 → ∀ (Gh H : Heap) (locs : List Loc) (ls : Array Slot), va_P (dC, dI) vwCl (cW cB cI cJ cZ cS cO b cs1) H → va_D A (cW cB cI cJ cZ cS cO b cs1) → va_S A s.heap Gh [] → Gh.size = b + kK cs1 → va_S A Gh H locs → lv_has ls 7 [(0, .ref (b + u0)), (1, .ref (b + u1))] → W p l e (headSpec (wsOf yX9_readQuery cX9_readQuery 7 (some (.object "StreamQueries$Query"))) ({ frames := n + 1 + 305, cells := kK cs9 - kK cs, slots := kM cs9 - kM cs, locals := 60 * (n + 1 + 305) } : Room)).room s m ([.ref (b + x0)] : List Value).toArray below meth c H locs (kK cs1 - kK cs) (kM cs1 - kM cs) (MQ below (va_Qr (fun (_ : Unit) => True) (fun _ a_ t_ => a_ = b + r9 ∧ va_P (dC, dI) vwCl (cW cB cI cJ cZ cS cO b cs9) t_.heap ∧ va_D A (cW cB cI cJ cZ cS cO b cs9) ∧ b + kK cs9 ≤ t_.heap.size) A) ([.ref (b + x0)] : List Value).toArray s (kK cs9 - kK cs) (kM cs9 - kM cs) A) (F0 m 119 ls []) := by
    intro cs1 u0 u1 h hmk hmm Gh H locs ls hP hD hG hgz hS hl
    obtain ⟨kb9, mb9⟩ := mo_c_X9_readQuery_b119 F T (fun c_ x_0 z_ r_ h_ => (hT_X9_readQuery c_ x_0 z_ r_ h_).1) (fun c_ x_0 z_ r_ h_ => (hT_X9_readSelect c_ x_0 z_ r_ h_).1) (fun c_ x_0 x_1 z_ h_ => (hT_X9_readSources c_ x_0 x_1 z_ h_).1) (fun c_ x_0 z_ r_ h_ => (hT_X9_readSource c_ x_0 z_ r_ h_).1) cs1 u0 u1 cs9 r9 h
    unfold c_X9_readQuery_b119 at h
    refine lv_aload_n hx hb dX9_readQuery_119 rfl (lv_at hl 0 rfl) ?_
    replace h := ob h; obtain ⟨w_2, hw_2, h⟩ := h
    replace h := ob h; obtain ⟨v_1, hv_1, h⟩ := h
    refine cbvI (As := []) hx hb hml hts hown hK hP hD hS hG hA (by omega) (by omega) hZ (X := 10) (by decide) rfl (ckE_some hw_2) (sc_X9_kind l dC dI cB cI cJ cZ cS cO b K V fz F cs1 u0 v_1 hv_1) (cw_X9_X9_kind hts (fr := 0) (by show 0 + 1 ≤ n + 1 + 305; omega) (by show 8 + (1 + 11) + 60 * (0) ≤ 60 * (n + 1 + 305); omega)) rfl hl.1 (Nat.le_of_ble_eq_true rfl) ⟨by show kK cs1 - kK cs ≤ kK cs9 - kK cs; omega, by show kM cs1 - kM cs ≤ kM cs9 - kM cs; omega⟩ dX9_readQuery_120 (fun H locs hP hD hG hgz hS => ?_)
    refine lv_bipush (v := 14) hx hb dX9_readQuery_123 (by decide) ?_
    refine lv_icmp_ne (tgt := 133) hx hb dX9_readQuery_125 (by decide) (fun c_3 => ?_) (fun c_3 => ?_)
    · skip
      replace h := (if_neg c_3).symm.trans h
      refine W_cnt (c2 := kK cs1 - kK cs) (n2 := kM cs1 - kM cs) (by omega) (by omega) ?_
      exact B_133 cs1 u1 h (by omega) (by omega) _ _ _ _ hP hD hG (by omega) hS (lv_sub hl [1] rfl)
    · skip
      replace h := (if_pos c_3).symm.trans h
      refine lv_aload_n hx hb dX9_readQuery_128 rfl (lv_at hl 0 rfl) ?_
      refine lv_aload_n hx hb dX9_readQuery_129 rfl (lv_at hl 1 rfl) ?_
      replace h := ob h; obtain ⟨w_5, hw_5, h⟩ := h
      replace h := ob h; obtain ⟨cs_4, hv_4, h⟩ := h
      obtain ⟨qk_4, qm_4⟩ := mo_c_X9_readOrder F cs1 u0 u1 cs_4 hv_4
      obtain ⟨k9_4, m9_4⟩ := mo_c_X9_readQuery_b133 F T (fun c_ x_0 z_ r_ h_ => (hT_X9_readQuery c_ x_0 z_ r_ h_).1) (fun c_ x_0 z_ r_ h_ => (hT_X9_readSelect c_ x_0 z_ r_ h_).1) (fun c_ x_0 x_1 z_ h_ => (hT_X9_readSources c_ x_0 x_1 z_ h_).1) (fun c_ x_0 z_ r_ h_ => (hT_X9_readSource c_ x_0 z_ r_ h_).1) cs_4 u1 cs9 r9 h
      refine cavV (As := [.ref (b + u1)]) hx hb hml hts hown hK hP hD hS hG hA (by omega) (by omega) hZ (X := 10) (by decide) rfl (ckE_some hw_5) (sa_X9_readOrder l dC dI cB cI cJ cZ cS cO b K V fz F cs1 u0 u1 cs_4 hv_4) (cw_X9_X9_readOrder hts (fr := 304) (by show 304 + 1 ≤ n + 1 + 305; omega) (by show 8 + (6 + 11) + 60 * (304) ≤ 60 * (n + 1 + 305); omega)) rfl hl.1 (Nat.le_of_ble_eq_true rfl) ⟨by show kK cs1 - kK cs + (kK cs_4 - kK cs1) ≤ kK cs9 - kK cs; omega, by show kM cs1 - kM cs + (kM cs_4 - kM cs1) ≤ kM cs9 - kM cs; omega⟩ dX9_readQuery_130 (fun H locs hP hD hG hgz hS => ?_)
      refine W_cnt (c2 := kK cs_4 - kK cs) (n2 := kM cs_4 - kM cs) (by omega) (by omega) ?_
      exact B_133 cs_4 u1 h (by omega) (by omega) _ _ _ _ hP hD hG (by omega) hS (lv_sub hl [1] rfl)
  have L_14 : ∀ (lf_14 : Nat), ∀ (cs1 : CS) (u0 : Nat) (u1 : Nat) (u2 : Int32), c_X9_readQuery_L14 F T lf_14 cs1 u0 u1 u2 = some (cs9, r9) → kK cs ≤ kK cs1 → kM cs ≤ kM cs1 → ∀ (Gh H : Heap) (locs : List Loc) (ls : Array Slot), va_P (dC, dI) vwCl (cW cB cI cJ cZ cS cO b cs1) H → va_D A (cW cB cI cJ cZ cS cO b cs1) → va_S A s.heap Gh [] → Gh.size = b + kK cs1 → va_S A Gh H locs → lv_has ls 7 [(0, .ref (b + u0)), (1, .ref (b + u1)), (2, .int u2)] → W p l e (headSpec (wsOf yX9_readQuery cX9_readQuery 7 (some (.object "StreamQueries$Query"))) ({ frames := n + 1 + 305, cells := kK cs9 - kK cs, slots := kM cs9 - kM cs, locals := 60 * (n + 1 + 305) } : Room)).room s m ([.ref (b + x0)] : List Value).toArray below meth c H locs (kK cs1 - kK cs) (kM cs1 - kM cs) (MQ below (va_Qr (fun (_ : Unit) => True) (fun _ a_ t_ => a_ = b + r9 ∧ va_P (dC, dI) vwCl (cW cB cI cJ cZ cS cO b cs9) t_.heap ∧ va_D A (cW cB cI cJ cZ cS cO b cs9) ∧ b + kK cs9 ≤ t_.heap.size) A) ([.ref (b + x0)] : List Value).toArray s (kK cs9 - kK cs) (kM cs9 - kM cs) A) (F0 m 14 ls []) := by
    intro lf_14
    induction lf_14 with
    | zero => intro cs1 u0 u1 u2 h; cases (show (none : Option (CS × Nat)) = _ from h)
    | succ lf_14 ih_14 =>
      have B_112 : ∀ (cs1 : CS) (u0 : Nat) (u1 : Nat) (u2 : Int32) (y0 : Int32), c_X9_readQuery_b112 F T (c_X9_readQuery_L14 F T lf_14) cs1 u0 u1 u2 y0 = some (cs9, r9) → kK cs ≤ kK cs1 → kM cs ≤ kM cs1 → ∀ (Gh H : Heap) (locs : List Loc) (ls : Array Slot), va_P (dC, dI) vwCl (cW cB cI cJ cZ cS cO b cs1) H → va_D A (cW cB cI cJ cZ cS cO b cs1) → va_S A s.heap Gh [] → Gh.size = b + kK cs1 → va_S A Gh H locs → lv_has ls 7 [(0, .ref (b + u0)), (1, .ref (b + u1)), (2, .int u2)] → W p l e (headSpec (wsOf yX9_readQuery cX9_readQuery 7 (some (.object "StreamQueries$Query"))) ({ frames := n + 1 + 305, cells := kK cs9 - kK cs, slots := kM cs9 - kM cs, locals := 60 * (n + 1 + 305) } : Room)).room s m ([.ref (b + x0)] : List Value).toArray below meth c H locs (kK cs1 - kK cs) (kM cs1 - kM cs) (MQ below (va_Qr (fun (_ : Unit) => True) (fun _ a_ t_ => a_ = b + r9 ∧ va_P (dC, dI) vwCl (cW cB cI cJ cZ cS cO b cs9) t_.heap ∧ va_D A (cW cB cI cJ cZ cS cO b cs9) ∧ b + kK cs9 ≤ t_.heap.size) A) ([.ref (b + x0)] : List Value).toArray s (kK cs9 - kK cs) (kM cs9 - kM cs) A) (F0 m 112 ls [.int y0]) := by
        intro cs1 u0 u1 u2 y0 h hmk hmm Gh H locs ls hP hD hG hgz hS hl
        obtain ⟨kb9, mb9⟩ := mo_c_X9_readQuery_b112 F T (fun c_ x_0 z_ r_ h_ => (hT_X9_readQuery c_ x_0 z_ r_ h_).1) (fun c_ x_0 z_ r_ h_ => (hT_X9_readSelect c_ x_0 z_ r_ h_).1) (fun c_ x_0 x_1 z_ h_ => (hT_X9_readSources c_ x_0 x_1 z_ h_).1) (fun c_ x_0 z_ r_ h_ => (hT_X9_readSource c_ x_0 z_ r_ h_).1) (c_X9_readQuery_L14 F T lf_14) (mo_c_X9_readQuery_L14 F T (fun c_ x_0 z_ r_ h_ => (hT_X9_readQuery c_ x_0 z_ r_ h_).1) (fun c_ x_0 z_ r_ h_ => (hT_X9_readSelect c_ x_0 z_ r_ h_).1) (fun c_ x_0 x_1 z_ h_ => (hT_X9_readSources c_ x_0 x_1 z_ h_).1) (fun c_ x_0 z_ r_ h_ => (hT_X9_readSource c_ x_0 z_ r_ h_).1) lf_14) cs1 u0 u1 u2 y0 cs9 r9 h
        unfold c_X9_readQuery_b112 at h
        refine lv_pop hx hb dX9_readQuery_112 rfl ?_
        refine lv_iinc (v := u2 + 1) (lv' := [(2, .int (u2 + 1)), (0, .ref (b + u0)), (1, .ref (b + u1))]) hx hb dX9_readQuery_113 hl (k := 2) rfl rfl (by decide) rfl (fun ls hl => ?_)
        refine lv_goto (tgt := 14) hx hb dX9_readQuery_116 (by decide) ?_
        refine W_cnt (c2 := kK cs1 - kK cs) (n2 := kM cs1 - kM cs) (by omega) (by omega) ?_
        exact ih_14 cs1 u0 u1 (u2 + 1) h (by omega) (by omega) _ _ _ _ hP hD hG (by omega) hS (lv_sub hl [1, 2, 0] rfl)
      have B_93 : ∀ (cs1 : CS) (u0 : Nat) (u1 : Nat) (u2 : Int32) (u4 : Int32) (u6 : Nat) (y0 : Int32) (y1 : Nat), c_X9_readQuery_b93 F T (c_X9_readQuery_L14 F T lf_14) cs1 u0 u1 u2 u4 u6 y0 y1 = some (cs9, r9) → kK cs ≤ kK cs1 → kM cs ≤ kM cs1 → ∀ (Gh H : Heap) (locs : List Loc) (ls : Array Slot), va_P (dC, dI) vwCl (cW cB cI cJ cZ cS cO b cs1) H → va_D A (cW cB cI cJ cZ cS cO b cs1) → va_S A s.heap Gh [] → Gh.size = b + kK cs1 → va_S A Gh H locs → lv_has ls 7 [(0, .ref (b + u0)), (1, .ref (b + u1)), (2, .int u2), (4, .int u4), (6, .ref (b + u6))] → W p l e (headSpec (wsOf yX9_readQuery cX9_readQuery 7 (some (.object "StreamQueries$Query"))) ({ frames := n + 1 + 305, cells := kK cs9 - kK cs, slots := kM cs9 - kM cs, locals := 60 * (n + 1 + 305) } : Room)).room s m ([.ref (b + x0)] : List Value).toArray below meth c H locs (kK cs1 - kK cs) (kM cs1 - kM cs) (MQ below (va_Qr (fun (_ : Unit) => True) (fun _ a_ t_ => a_ = b + r9 ∧ va_P (dC, dI) vwCl (cW cB cI cJ cZ cS cO b cs9) t_.heap ∧ va_D A (cW cB cI cJ cZ cS cO b cs9) ∧ b + kK cs9 ≤ t_.heap.size) A) ([.ref (b + x0)] : List Value).toArray s (kK cs9 - kK cs) (kM cs9 - kM cs) A) (F0 m 93 ls [.int y0, .ref (b + y1)]) := by
        intro cs1 u0 u1 u2 u4 u6 y0 y1 h hmk hmm Gh H locs ls hP hD hG hgz hS hl
        obtain ⟨kb9, mb9⟩ := mo_c_X9_readQuery_b93 F T (fun c_ x_0 z_ r_ h_ => (hT_X9_readQuery c_ x_0 z_ r_ h_).1) (fun c_ x_0 z_ r_ h_ => (hT_X9_readSelect c_ x_0 z_ r_ h_).1) (fun c_ x_0 x_1 z_ h_ => (hT_X9_readSources c_ x_0 x_1 z_ h_).1) (fun c_ x_0 z_ r_ h_ => (hT_X9_readSource c_ x_0 z_ r_ h_).1) (c_X9_readQuery_L14 F T lf_14) (mo_c_X9_readQuery_L14 F T (fun c_ x_0 z_ r_ h_ => (hT_X9_readQuery c_ x_0 z_ r_ h_).1) (fun c_ x_0 z_ r_ h_ => (hT_X9_readSelect c_ x_0 z_ r_ h_).1) (fun c_ x_0 x_1 z_ h_ => (hT_X9_readSources c_ x_0 x_1 z_ h_).1) (fun c_ x_0 z_ r_ h_ => (hT_X9_readSource c_ x_0 z_ r_ h_).1) lf_14) cs1 u0 u1 u2 u4 u6 y0 y1 cs9 r9 h
        unfold c_X9_readQuery_b93 at h
        replace h := ob h; obtain ⟨cs_6, hv_6, h⟩ := h
        obtain ⟨qk_6, qm_6⟩ := pI_k hv_6
        refine fp_X9_136 hx hb hts hown hK hP hD hS hv_6 dX9_readQuery_93 (fun H locs hP hD hS => ?_)
        refine lv_aload hx hb dX9_readQuery_96 (lv_at hl 4 rfl) ?_
        refine lv_iload hx hb dX9_readQuery_98 (lv_at hl 3 rfl) ?_
        replace h := ob h; obtain ⟨cs_7, hv_7, h⟩ := h
        obtain ⟨qk_7, qm_7⟩ := pI_k hv_7
        refine fp_X9_139 hx hb hts hown hK hP hD hS hv_7 dX9_readQuery_100 (fun H locs hP hD hS => ?_)
        refine lv_aload_n hx hb dX9_readQuery_103 rfl (lv_at hl 1 rfl) ?_
        replace h := ob h; obtain ⟨v_8, hv_8, h⟩ := h
        refine fg_X9_142 hx hb hts hown hK hP hv_8 dX9_readQuery_104 ?_
        refine lv_aload hx hb dX9_readQuery_107 (lv_at hl 4 rfl) ?_
        replace h := ob h; obtain ⟨i_9, hi_9, h⟩ := h
        subst hi_9
        replace h := ob h; obtain ⟨cs_10, hv_10, h⟩ := h
        obtain ⟨qk_10, qm_10⟩ := lAd_k hv_10
        refine ladd_X9 hx hb hml hts hown hK hP hD hS hG hA (by omega) (by omega) hZ hv_10 hl.1 (Nat.le_of_ble_eq_true rfl) ⟨by show kK cs1 - kK cs + 0 ≤ kK cs9 - kK cs; omega, by show kM cs1 - kM cs + 0 ≤ kM cs9 - kM cs; omega⟩ (by show 4 ≤ n + 1 + 305; omega) (by show 300 ≤ 60 * (n + 1 + 305); omega) dX9_readQuery_109 (fun H locs hP hD hG hgz hS => ?_)
        refine W_cnt (c2 := kK cs_10 - kK cs) (n2 := kM cs_10 - kM cs) (by omega) (by omega) ?_
        exact B_112 cs_10 u0 u1 u2 1 h (by omega) (by omega) _ _ _ _ hP hD hG (by omega) hS (lv_sub hl [0, 1, 2] rfl)
      have B_78 : ∀ (cs1 : CS) (u0 : Nat) (u1 : Nat) (u2 : Int32) (u3 : Int32) (u4 : Int32) (u5 : Int32) (y0 : Nat), c_X9_readQuery_b78 F T (c_X9_readQuery_L14 F T lf_14) cs1 u0 u1 u2 u3 u4 u5 y0 = some (cs9, r9) → kK cs ≤ kK cs1 → kM cs ≤ kM cs1 → ∀ (Gh H : Heap) (locs : List Loc) (ls : Array Slot), va_P (dC, dI) vwCl (cW cB cI cJ cZ cS cO b cs1) H → va_D A (cW cB cI cJ cZ cS cO b cs1) → va_S A s.heap Gh [] → Gh.size = b + kK cs1 → va_S A Gh H locs → lv_has ls 7 [(0, .ref (b + u0)), (1, .ref (b + u1)), (2, .int u2), (3, .int u3), (4, .int u4), (5, .int u5)] → W p l e (headSpec (wsOf yX9_readQuery cX9_readQuery 7 (some (.object "StreamQueries$Query"))) ({ frames := n + 1 + 305, cells := kK cs9 - kK cs, slots := kM cs9 - kM cs, locals := 60 * (n + 1 + 305) } : Room)).room s m ([.ref (b + x0)] : List Value).toArray below meth c H locs (kK cs1 - kK cs) (kM cs1 - kM cs) (MQ below (va_Qr (fun (_ : Unit) => True) (fun _ a_ t_ => a_ = b + r9 ∧ va_P (dC, dI) vwCl (cW cB cI cJ cZ cS cO b cs9) t_.heap ∧ va_D A (cW cB cI cJ cZ cS cO b cs9) ∧ b + kK cs9 ≤ t_.heap.size) A) ([.ref (b + x0)] : List Value).toArray s (kK cs9 - kK cs) (kM cs9 - kM cs) A) (F0 m 78 ls [.ref (b + y0)]) := by
        intro cs1 u0 u1 u2 u3 u4 u5 y0 h hmk hmm Gh H locs ls hP hD hG hgz hS hl
        obtain ⟨kb9, mb9⟩ := mo_c_X9_readQuery_b78 F T (fun c_ x_0 z_ r_ h_ => (hT_X9_readQuery c_ x_0 z_ r_ h_).1) (fun c_ x_0 z_ r_ h_ => (hT_X9_readSelect c_ x_0 z_ r_ h_).1) (fun c_ x_0 x_1 z_ h_ => (hT_X9_readSources c_ x_0 x_1 z_ h_).1) (fun c_ x_0 z_ r_ h_ => (hT_X9_readSource c_ x_0 z_ r_ h_).1) (c_X9_readQuery_L14 F T lf_14) (mo_c_X9_readQuery_L14 F T (fun c_ x_0 z_ r_ h_ => (hT_X9_readQuery c_ x_0 z_ r_ h_).1) (fun c_ x_0 z_ r_ h_ => (hT_X9_readSelect c_ x_0 z_ r_ h_).1) (fun c_ x_0 x_1 z_ h_ => (hT_X9_readSources c_ x_0 x_1 z_ h_).1) (fun c_ x_0 z_ r_ h_ => (hT_X9_readSource c_ x_0 z_ r_ h_).1) lf_14) cs1 u0 u1 u2 u3 u4 u5 y0 cs9 r9 h
        unfold c_X9_readQuery_b78 at h
        refine lv_astore (lv' := [(6, .ref (b + y0)), (0, .ref (b + u0)), (1, .ref (b + u1)), (2, .int u2), (3, .int u3), (4, .int u4), (5, .int u5)]) hx hb dX9_readQuery_78 hl (by decide) rfl (fun ls hl => ?_)
        refine lv_aload hx hb dX9_readQuery_80 (lv_at hl 0 rfl) ?_
        refine lv_iload hx hb dX9_readQuery_82 (lv_at hl 6 rfl) ?_
        refine lv_if_eq (tgt := 92) hx hb dX9_readQuery_84 (by decide) (fun c_11 => ?_) (fun c_11 => ?_)
        · skip
          replace h := (if_pos c_11).symm.trans h
          refine lv_iload_n hx hb dX9_readQuery_92 rfl (lv_at hl 4 rfl) ?_
          refine W_cnt (c2 := kK cs1 - kK cs) (n2 := kM cs1 - kM cs) (by omega) (by omega) ?_
          exact B_93 cs1 u0 u1 u2 u4 y0 u3 y0 h (by omega) (by omega) _ _ _ _ hP hD hG (by omega) hS (lv_sub hl [1, 2, 3, 5, 0] rfl)
        · skip
          replace h := (if_neg c_11).symm.trans h
          refine lv_bipush (v := 11) hx hb dX9_readQuery_87 (by decide) ?_
          refine lv_goto (tgt := 93) hx hb dX9_readQuery_89 (by decide) ?_
          refine W_cnt (c2 := kK cs1 - kK cs) (n2 := kM cs1 - kM cs) (by omega) (by omega) ?_
          exact B_93 cs1 u0 u1 u2 u4 y0 11 y0 h (by omega) (by omega) _ _ _ _ hP hD hG (by omega) hS (lv_sub hl [1, 2, 3, 5, 0] rfl)
      have B_72 : ∀ (cs1 : CS) (u0 : Nat) (u1 : Nat) (u2 : Int32) (u3 : Int32) (u4 : Int32) (y0 : Int32), c_X9_readQuery_b72 F T (c_X9_readQuery_L14 F T lf_14) cs1 u0 u1 u2 u3 u4 y0 = some (cs9, r9) → kK cs ≤ kK cs1 → kM cs ≤ kM cs1 → ∀ (Gh H : Heap) (locs : List Loc) (ls : Array Slot), va_P (dC, dI) vwCl (cW cB cI cJ cZ cS cO b cs1) H → va_D A (cW cB cI cJ cZ cS cO b cs1) → va_S A s.heap Gh [] → Gh.size = b + kK cs1 → va_S A Gh H locs → lv_has ls 7 [(0, .ref (b + u0)), (1, .ref (b + u1)), (2, .int u2), (3, .int u3), (4, .int u4)] → W p l e (headSpec (wsOf yX9_readQuery cX9_readQuery 7 (some (.object "StreamQueries$Query"))) ({ frames := n + 1 + 305, cells := kK cs9 - kK cs, slots := kM cs9 - kM cs, locals := 60 * (n + 1 + 305) } : Room)).room s m ([.ref (b + x0)] : List Value).toArray below meth c H locs (kK cs1 - kK cs) (kM cs1 - kM cs) (MQ below (va_Qr (fun (_ : Unit) => True) (fun _ a_ t_ => a_ = b + r9 ∧ va_P (dC, dI) vwCl (cW cB cI cJ cZ cS cO b cs9) t_.heap ∧ va_D A (cW cB cI cJ cZ cS cO b cs9) ∧ b + kK cs9 ≤ t_.heap.size) A) ([.ref (b + x0)] : List Value).toArray s (kK cs9 - kK cs) (kM cs9 - kM cs) A) (F0 m 72 ls [.int y0]) := by
        intro cs1 u0 u1 u2 u3 u4 y0 h hmk hmm Gh H locs ls hP hD hG hgz hS hl
        obtain ⟨kb9, mb9⟩ := mo_c_X9_readQuery_b72 F T (fun c_ x_0 z_ r_ h_ => (hT_X9_readQuery c_ x_0 z_ r_ h_).1) (fun c_ x_0 z_ r_ h_ => (hT_X9_readSelect c_ x_0 z_ r_ h_).1) (fun c_ x_0 x_1 z_ h_ => (hT_X9_readSources c_ x_0 x_1 z_ h_).1) (fun c_ x_0 z_ r_ h_ => (hT_X9_readSource c_ x_0 z_ r_ h_).1) (c_X9_readQuery_L14 F T lf_14) (mo_c_X9_readQuery_L14 F T (fun c_ x_0 z_ r_ h_ => (hT_X9_readQuery c_ x_0 z_ r_ h_).1) (fun c_ x_0 z_ r_ h_ => (hT_X9_readSelect c_ x_0 z_ r_ h_).1) (fun c_ x_0 x_1 z_ h_ => (hT_X9_readSources c_ x_0 x_1 z_ h_).1) (fun c_ x_0 z_ r_ h_ => (hT_X9_readSource c_ x_0 z_ r_ h_).1) lf_14) cs1 u0 u1 u2 u3 u4 y0 cs9 r9 h
        unfold c_X9_readQuery_b72 at h
        refine lv_istore (lv' := [(5, .int y0), (0, .ref (b + u0)), (1, .ref (b + u1)), (2, .int u2), (3, .int u3), (4, .int u4)]) hx hb dX9_readQuery_72 hl (by decide) rfl (fun ls hl => ?_)
        refine lv_aload_n hx hb dX9_readQuery_74 rfl (lv_at hl 1 rfl) ?_
        replace h := ob h; obtain ⟨w_13, hw_13, h⟩ := h
        replace h := ob h; obtain ⟨z_12, hv_12, h⟩ := h
        obtain ⟨qk_12, qm_12⟩ := (hT_X9_readSelect cs1 u0 z_12.1 z_12.2 hv_12).1
        obtain ⟨k9_12, m9_12⟩ := mo_c_X9_readQuery_b78 F T (fun c_ x_0 z_ r_ h_ => (hT_X9_readQuery c_ x_0 z_ r_ h_).1) (fun c_ x_0 z_ r_ h_ => (hT_X9_readSelect c_ x_0 z_ r_ h_).1) (fun c_ x_0 x_1 z_ h_ => (hT_X9_readSources c_ x_0 x_1 z_ h_).1) (fun c_ x_0 z_ r_ h_ => (hT_X9_readSource c_ x_0 z_ r_ h_).1) (c_X9_readQuery_L14 F T lf_14) (mo_c_X9_readQuery_L14 F T (fun c_ x_0 z_ r_ h_ => (hT_X9_readQuery c_ x_0 z_ r_ h_).1) (fun c_ x_0 z_ r_ h_ => (hT_X9_readSelect c_ x_0 z_ r_ h_).1) (fun c_ x_0 x_1 z_ h_ => (hT_X9_readSources c_ x_0 x_1 z_ h_).1) (fun c_ x_0 z_ r_ h_ => (hT_X9_readSource c_ x_0 z_ r_ h_).1) lf_14) z_12.1 u0 u1 u2 u3 u4 y0 z_12.2 cs9 r9 h
        refine cavR (As := []) hx hb hml hts hown hK hP hD hS hG hA (by omega) (by omega) hZ (X := 10) (by decide) rfl (ckE_some hw_13) (hT_X9_readSelect cs1 u0 z_12.1 z_12.2 hv_12) (cw_X9_X9_readSelect hts (fr := n + 305) (by show n + 305 + 1 ≤ n + 1 + 305; omega) (by show 8 + (5 + 11) + 60 * (n + 305) ≤ 60 * (n + 1 + 305); omega)) rfl hl.1 (Nat.le_of_ble_eq_true rfl) ⟨by show kK cs1 - kK cs + (kK z_12.1 - kK cs1) ≤ kK cs9 - kK cs; omega, by show kM cs1 - kM cs + (kM z_12.1 - kM cs1) ≤ kM cs9 - kM cs; omega⟩ dX9_readQuery_75 (fun H locs hP hD hG hgz hS => ?_)
        refine W_cnt (c2 := kK z_12.1 - kK cs) (n2 := kM z_12.1 - kM cs) (by omega) (by omega) ?_
        exact B_78 z_12.1 u0 u1 u2 u3 u4 y0 z_12.2 h (by omega) (by omega) _ _ _ _ hP hD hG (by omega) hS (lv_sub hl [1, 2, 3, 4, 5, 0] rfl)
      have B_71 : ∀ (cs1 : CS) (u0 : Nat) (u1 : Nat) (u2 : Int32) (u3 : Int32) (u4 : Int32), c_X9_readQuery_b71 F T (c_X9_readQuery_L14 F T lf_14) cs1 u0 u1 u2 u3 u4 = some (cs9, r9) → kK cs ≤ kK cs1 → kM cs ≤ kM cs1 → ∀ (Gh H : Heap) (locs : List Loc) (ls : Array Slot), va_P (dC, dI) vwCl (cW cB cI cJ cZ cS cO b cs1) H → va_D A (cW cB cI cJ cZ cS cO b cs1) → va_S A s.heap Gh [] → Gh.size = b + kK cs1 → va_S A Gh H locs → lv_has ls 7 [(0, .ref (b + u0)), (1, .ref (b + u1)), (2, .int u2), (3, .int u3), (4, .int u4)] → W p l e (headSpec (wsOf yX9_readQuery cX9_readQuery 7 (some (.object "StreamQueries$Query"))) ({ frames := n + 1 + 305, cells := kK cs9 - kK cs, slots := kM cs9 - kM cs, locals := 60 * (n + 1 + 305) } : Room)).room s m ([.ref (b + x0)] : List Value).toArray below meth c H locs (kK cs1 - kK cs) (kM cs1 - kM cs) (MQ below (va_Qr (fun (_ : Unit) => True) (fun _ a_ t_ => a_ = b + r9 ∧ va_P (dC, dI) vwCl (cW cB cI cJ cZ cS cO b cs9) t_.heap ∧ va_D A (cW cB cI cJ cZ cS cO b cs9) ∧ b + kK cs9 ≤ t_.heap.size) A) ([.ref (b + x0)] : List Value).toArray s (kK cs9 - kK cs) (kM cs9 - kM cs) A) (F0 m 71 ls []) := by
        intro cs1 u0 u1 u2 u3 u4 h hmk hmm Gh H locs ls hP hD hG hgz hS hl
        obtain ⟨kb9, mb9⟩ := mo_c_X9_readQuery_b71 F T (fun c_ x_0 z_ r_ h_ => (hT_X9_readQuery c_ x_0 z_ r_ h_).1) (fun c_ x_0 z_ r_ h_ => (hT_X9_readSelect c_ x_0 z_ r_ h_).1) (fun c_ x_0 x_1 z_ h_ => (hT_X9_readSources c_ x_0 x_1 z_ h_).1) (fun c_ x_0 z_ r_ h_ => (hT_X9_readSource c_ x_0 z_ r_ h_).1) (c_X9_readQuery_L14 F T lf_14) (mo_c_X9_readQuery_L14 F T (fun c_ x_0 z_ r_ h_ => (hT_X9_readQuery c_ x_0 z_ r_ h_).1) (fun c_ x_0 z_ r_ h_ => (hT_X9_readSelect c_ x_0 z_ r_ h_).1) (fun c_ x_0 x_1 z_ h_ => (hT_X9_readSources c_ x_0 x_1 z_ h_).1) (fun c_ x_0 z_ r_ h_ => (hT_X9_readSource c_ x_0 z_ r_ h_).1) lf_14) cs1 u0 u1 u2 u3 u4 cs9 r9 h
        unfold c_X9_readQuery_b71 at h
        refine lv_iconst (v := 0) hx hb dX9_readQuery_71 (by decide) ?_
        refine W_cnt (c2 := kK cs1 - kK cs) (n2 := kM cs1 - kM cs) (by omega) (by omega) ?_
        exact B_72 cs1 u0 u1 u2 u3 u4 0 h (by omega) (by omega) _ _ _ _ hP hD hG (by omega) hS (lv_sub hl [0, 1, 2, 3, 4] rfl)
      intro cs1 u0 u1 u2 h hmk hmm Gh H locs ls hP hD hG hgz hS hl
      obtain ⟨kb9, mb9⟩ := mo_c_X9_readQuery_L14 F T (fun c_ x_0 z_ r_ h_ => (hT_X9_readQuery c_ x_0 z_ r_ h_).1) (fun c_ x_0 z_ r_ h_ => (hT_X9_readSelect c_ x_0 z_ r_ h_).1) (fun c_ x_0 x_1 z_ h_ => (hT_X9_readSources c_ x_0 x_1 z_ h_).1) (fun c_ x_0 z_ r_ h_ => (hT_X9_readSource c_ x_0 z_ r_ h_).1) (lf_14 + 1) cs1 u0 u1 u2 cs9 r9 h
      rw [c_X9_readQuery_L14] at h
      refine lv_iload_n hx hb dX9_readQuery_14 rfl (lv_at hl 2 rfl) ?_
      refine lv_sipush (v := 2000) hx hb dX9_readQuery_15 (by decide) ?_
      refine lv_icmp_ge (tgt := 119) hx hb dX9_readQuery_18 (by decide) (fun c_14 => ?_) (fun c_14 => ?_)
      · skip
        replace h := (if_pos c_14).symm.trans h
        refine W_cnt (c2 := kK cs1 - kK cs) (n2 := kM cs1 - kM cs) (by omega) (by omega) ?_
        exact B_119 cs1 u0 u1 h (by omega) (by omega) _ _ _ _ hP hD hG (by omega) hS (lv_sub hl [0, 1] rfl)
      · skip
        replace h := (if_neg c_14).symm.trans h
        refine lv_aload_n hx hb dX9_readQuery_21 rfl (lv_at hl 0 rfl) ?_
        replace h := ob h; obtain ⟨w_16, hw_16, h⟩ := h
        replace h := ob h; obtain ⟨v_15, hv_15, h⟩ := h
        refine cbvI (As := []) hx hb hml hts hown hK hP hD hS hG hA (by omega) (by omega) hZ (X := 10) (by decide) rfl (ckE_some hw_16) (sc_X9_kind l dC dI cB cI cJ cZ cS cO b K V fz F cs1 u0 v_15 hv_15) (cw_X9_X9_kind hts (fr := 0) (by show 0 + 1 ≤ n + 1 + 305; omega) (by show 8 + (1 + 11) + 60 * (0) ≤ 60 * (n + 1 + 305); omega)) rfl hl.1 (Nat.le_of_ble_eq_true rfl) ⟨by show kK cs1 - kK cs ≤ kK cs9 - kK cs; omega, by show kM cs1 - kM cs ≤ kM cs9 - kM cs; omega⟩ dX9_readQuery_22 (fun H locs hP hD hG hgz hS => ?_)
        replace h := ob h; obtain ⟨v_17, hv_17, h⟩ := h
        refine cbsI (As := [.int v_15]) hx hb hml hts hown hK hP hD hS hG hA (by omega) (by omega) hZ (sc_X9_beginsSet l dC dI cB cI cJ cZ cS cO b K V fz F cs1 v_15 v_17 hv_17) (cw_X9_X9_beginsSet hts (fr := 0) (by show 0 + 1 ≤ n + 1 + 305; omega) (by show 8 + (1 + 11) + 60 * (0) ≤ 60 * (n + 1 + 305); omega)) rfl hl.1 (Nat.le_of_ble_eq_true rfl) ⟨by show kK cs1 - kK cs ≤ kK cs9 - kK cs; omega, by show kM cs1 - kM cs ≤ kM cs9 - kM cs; omega⟩ dX9_readQuery_25 (fun H locs hP hD hG hgz hS => ?_)
        refine lv_if_eq (tgt := 119) hx hb dX9_readQuery_28 (by decide) (fun c_18 => ?_) (fun c_18 => ?_)
        · skip
          replace h := (if_pos c_18).symm.trans h
          refine W_cnt (c2 := kK cs1 - kK cs) (n2 := kM cs1 - kM cs) (by omega) (by omega) ?_
          exact B_119 cs1 u0 u1 h (by omega) (by omega) _ _ _ _ hP hD hG (by omega) hS (lv_sub hl [0, 1] rfl)
        · skip
          replace h := (if_neg c_18).symm.trans h
          refine lv_aload_n hx hb dX9_readQuery_31 rfl (lv_at hl 0 rfl) ?_
          replace h := ob h; obtain ⟨w_20, hw_20, h⟩ := h
          replace h := ob h; obtain ⟨v_19, hv_19, h⟩ := h
          refine cbvI (As := []) hx hb hml hts hown hK hP hD hS hG hA (by omega) (by omega) hZ (X := 10) (by decide) rfl (ckE_some hw_20) (sc_X9_kind l dC dI cB cI cJ cZ cS cO b K V fz F cs1 u0 v_19 hv_19) (cw_X9_X9_kind hts (fr := 0) (by show 0 + 1 ≤ n + 1 + 305; omega) (by show 8 + (1 + 11) + 60 * (0) ≤ 60 * (n + 1 + 305); omega)) rfl hl.1 (Nat.le_of_ble_eq_true rfl) ⟨by show kK cs1 - kK cs ≤ kK cs9 - kK cs; omega, by show kM cs1 - kM cs ≤ kM cs9 - kM cs; omega⟩ dX9_readQuery_32 (fun H locs hP hD hG hgz hS => ?_)
          refine lv_istore_n (lv' := [(3, .int v_19), (0, .ref (b + u0)), (1, .ref (b + u1)), (2, .int u2)]) hx hb dX9_readQuery_35 rfl hl (by decide) rfl (fun ls hl => ?_)
          refine lv_aload_n hx hb dX9_readQuery_36 rfl (lv_at hl 1 rfl) ?_
          replace h := ob h; obtain ⟨w_22, hw_22, h⟩ := h
          replace h := ob h; obtain ⟨v_21, hv_21, h⟩ := h
          refine cbvI (As := []) hx hb hml hts hown hK hP hD hS hG hA (by omega) (by omega) hZ (X := 10) (by decide) rfl (ckE_some hw_22) (sc_X9_here l dC dI cB cI cJ cZ cS cO b K V fz F cs1 u0 v_21 hv_21) (cw_X9_X9_here hts (fr := 0) (by show 0 + 1 ≤ n + 1 + 305; omega) (by show 8 + (1 + 11) + 60 * (0) ≤ 60 * (n + 1 + 305); omega)) rfl hl.1 (Nat.le_of_ble_eq_true rfl) ⟨by show kK cs1 - kK cs ≤ kK cs9 - kK cs; omega, by show kM cs1 - kM cs ≤ kM cs9 - kM cs; omega⟩ dX9_readQuery_37 (fun H locs hP hD hG hgz hS => ?_)
          refine lv_istore (lv' := [(4, .int v_21), (3, .int v_19), (0, .ref (b + u0)), (1, .ref (b + u1)), (2, .int u2)]) hx hb dX9_readQuery_40 hl (by decide) rfl (fun ls hl => ?_)
          refine lv_aload_n hx hb dX9_readQuery_42 rfl (lv_at hl 2 rfl) ?_
          refine lv_dup hx hb dX9_readQuery_43 rfl ?_
          replace h := ob h; obtain ⟨v_23, hv_23, h⟩ := h
          refine fg_X9_99 hx hb hts hown hK hP hv_23 dX9_readQuery_44 ?_
          refine lv_iconst (v := 1) hx hb dX9_readQuery_47 (by decide) ?_
          refine lv_iadd hx hb dX9_readQuery_48 ?_
          replace h := ob h; obtain ⟨cs_24, hv_24, h⟩ := h
          obtain ⟨qk_24, qm_24⟩ := pI_k hv_24
          refine fp_X9_99 hx hb hts hown hK hP hD hS hv_24 dX9_readQuery_49 (fun H locs hP hD hS => ?_)
          refine lv_iload_n hx hb dX9_readQuery_52 rfl (lv_at hl 1 rfl) ?_
          refine lv_bipush (v := 10) hx hb dX9_readQuery_53 (by decide) ?_
          refine lv_icmp_ne (tgt := 71) hx hb dX9_readQuery_55 (by decide) (fun c_25 => ?_) (fun c_25 => ?_)
          · skip
            replace h := (if_neg c_25).symm.trans h
            refine W_cnt (c2 := kK cs_24 - kK cs) (n2 := kM cs_24 - kM cs) (by omega) (by omega) ?_
            exact B_71 cs_24 u0 u1 u2 v_19 v_21 h (by omega) (by omega) _ _ _ _ hP hD hG (by omega) hS (lv_sub hl [2, 3, 4, 1, 0] rfl)
          · skip
            replace h := (if_pos c_25).symm.trans h
            refine lv_aload_n hx hb dX9_readQuery_58 rfl (lv_at hl 2 rfl) ?_
            refine lv_bipush (v := 11) hx hb dX9_readQuery_59 (by decide) ?_
            replace h := ob h; obtain ⟨w_27, hw_27, h⟩ := h
            replace h := ob h; obtain ⟨z_26, hv_26, h⟩ := h
            obtain ⟨qk_26, qm_26⟩ := k_of (mo_c_X9_accept F cs_24 u0 11 z_26.1 z_26.2 hv_26)
            refine cbvI (As := [.int 11]) hx hb hml hts hown hK hP hD hS hG hA (by omega) (by omega) hZ (X := 10) (by decide) rfl (ckE_some hw_27) (sc_X9_accept l dC dI cB cI cJ cZ cS cO b K V fz F cs_24 u0 11 z_26.1 z_26.2 hv_26) (cw_X9_X9_accept hts (fr := 1) (by show 1 + 1 ≤ n + 1 + 305; omega) (by show 8 + (3 + 11) + 60 * (1) ≤ 60 * (n + 1 + 305); omega)) rfl hl.1 (Nat.le_of_ble_eq_true rfl) ⟨by show kK cs1 - kK cs ≤ kK cs9 - kK cs; omega, by show kM cs1 - kM cs ≤ kM cs9 - kM cs; omega⟩ dX9_readQuery_61 (fun H locs hP hD hG hgz hS => ?_)
            refine lv_if_eq (tgt := 71) hx hb dX9_readQuery_64 (by decide) (fun c_28 => ?_) (fun c_28 => ?_)
            · skip
              replace h := (if_pos c_28).symm.trans h
              refine W_cnt (c2 := kK z_26.1 - kK cs) (n2 := kM z_26.1 - kM cs) (by omega) (by omega) ?_
              exact B_71 z_26.1 u0 u1 u2 v_19 v_21 h (by omega) (by omega) _ _ _ _ hP hD hG (by omega) hS (lv_sub hl [2, 3, 4, 1, 0] rfl)
            · skip
              replace h := (if_neg c_28).symm.trans h
              refine lv_iconst (v := 1) hx hb dX9_readQuery_67 (by decide) ?_
              refine lv_goto (tgt := 72) hx hb dX9_readQuery_68 (by decide) ?_
              refine W_cnt (c2 := kK z_26.1 - kK cs) (n2 := kM z_26.1 - kM cs) (by omega) (by omega) ?_
              exact B_72 z_26.1 u0 u1 u2 v_19 v_21 1 h (by omega) (by omega) _ _ _ _ hP hD hG (by omega) hS (lv_sub hl [2, 3, 4, 1, 0] rfl)
  have B_11 : ∀ (cs1 : CS) (u0 : Nat) (y0 : Nat), c_X9_readQuery_b11 F T cs1 u0 y0 = some (cs9, r9) → kK cs ≤ kK cs1 → kM cs ≤ kM cs1 → ∀ (Gh H : Heap) (locs : List Loc) (ls : Array Slot), va_P (dC, dI) vwCl (cW cB cI cJ cZ cS cO b cs1) H → va_D A (cW cB cI cJ cZ cS cO b cs1) → va_S A s.heap Gh [] → Gh.size = b + kK cs1 → va_S A Gh H locs → lv_has ls 7 [(0, .ref (b + u0))] → W p l e (headSpec (wsOf yX9_readQuery cX9_readQuery 7 (some (.object "StreamQueries$Query"))) ({ frames := n + 1 + 305, cells := kK cs9 - kK cs, slots := kM cs9 - kM cs, locals := 60 * (n + 1 + 305) } : Room)).room s m ([.ref (b + x0)] : List Value).toArray below meth c H locs (kK cs1 - kK cs) (kM cs1 - kM cs) (MQ below (va_Qr (fun (_ : Unit) => True) (fun _ a_ t_ => a_ = b + r9 ∧ va_P (dC, dI) vwCl (cW cB cI cJ cZ cS cO b cs9) t_.heap ∧ va_D A (cW cB cI cJ cZ cS cO b cs9) ∧ b + kK cs9 ≤ t_.heap.size) A) ([.ref (b + x0)] : List Value).toArray s (kK cs9 - kK cs) (kM cs9 - kM cs) A) (F0 m 11 ls [.ref (b + y0)]) := by
    intro cs1 u0 y0 h hmk hmm Gh H locs ls hP hD hG hgz hS hl
    obtain ⟨kb9, mb9⟩ := mo_c_X9_readQuery_b11 F T (fun c_ x_0 z_ r_ h_ => (hT_X9_readQuery c_ x_0 z_ r_ h_).1) (fun c_ x_0 z_ r_ h_ => (hT_X9_readSelect c_ x_0 z_ r_ h_).1) (fun c_ x_0 x_1 z_ h_ => (hT_X9_readSources c_ x_0 x_1 z_ h_).1) (fun c_ x_0 z_ r_ h_ => (hT_X9_readSource c_ x_0 z_ r_ h_).1) cs1 u0 y0 cs9 r9 h
    unfold c_X9_readQuery_b11 at h
    refine lv_astore_n (lv' := [(1, .ref (b + y0)), (0, .ref (b + u0))]) hx hb dX9_readQuery_11 rfl hl (by decide) rfl (fun ls hl => ?_)
    refine lv_iconst (v := 0) hx hb dX9_readQuery_12 (by decide) ?_
    refine lv_istore_n (lv' := [(2, .int 0), (1, .ref (b + y0)), (0, .ref (b + u0))]) hx hb dX9_readQuery_13 rfl hl (by decide) rfl (fun ls hl => ?_)
    refine W_cnt (c2 := kK cs1 - kK cs) (n2 := kM cs1 - kM cs) (by omega) (by omega) ?_
    exact L_14 F cs1 u0 y0 0 h (by omega) (by omega) _ _ _ _ hP hD hG (by omega) hS (lv_sub hl [2, 1, 0] rfl)
  have B_8 : ∀ (cs1 : CS) (u0 : Nat) (y0 : Nat) (y1 : Nat) (y2 : Nat), c_X9_readQuery_b8 F T cs1 u0 y0 y1 y2 = some (cs9, r9) → kK cs ≤ kK cs1 → kM cs ≤ kM cs1 → ∀ (Gh H : Heap) (locs : List Loc) (ls : Array Slot), va_P (dC, dI) vwCl (cW cB cI cJ cZ cS cO b cs1) H → va_D A (cW cB cI cJ cZ cS cO b cs1) → va_S A s.heap Gh [] → Gh.size = b + kK cs1 → va_S A Gh H locs → lv_has ls 7 [(0, .ref (b + u0))] → W p l e (headSpec (wsOf yX9_readQuery cX9_readQuery 7 (some (.object "StreamQueries$Query"))) ({ frames := n + 1 + 305, cells := kK cs9 - kK cs, slots := kM cs9 - kM cs, locals := 60 * (n + 1 + 305) } : Room)).room s m ([.ref (b + x0)] : List Value).toArray below meth c H locs (kK cs1 - kK cs) (kM cs1 - kM cs) (MQ below (va_Qr (fun (_ : Unit) => True) (fun _ a_ t_ => a_ = b + r9 ∧ va_P (dC, dI) vwCl (cW cB cI cJ cZ cS cO b cs9) t_.heap ∧ va_D A (cW cB cI cJ cZ cS cO b cs9) ∧ b + kK cs9 ≤ t_.heap.size) A) ([.ref (b + x0)] : List Value).toArray s (kK cs9 - kK cs) (kM cs9 - kM cs) A) (F0 m 8 ls [.ref (b + y0), .ref (b + y1), .ref (b + y2)]) := by
    intro cs1 u0 y0 y1 y2 h hmk hmm Gh H locs ls hP hD hG hgz hS hl
    obtain ⟨kb9, mb9⟩ := mo_c_X9_readQuery_b8 F T (fun c_ x_0 z_ r_ h_ => (hT_X9_readQuery c_ x_0 z_ r_ h_).1) (fun c_ x_0 z_ r_ h_ => (hT_X9_readSelect c_ x_0 z_ r_ h_).1) (fun c_ x_0 x_1 z_ h_ => (hT_X9_readSources c_ x_0 x_1 z_ h_).1) (fun c_ x_0 z_ r_ h_ => (hT_X9_readSource c_ x_0 z_ r_ h_).1) cs1 u0 y0 y1 y2 cs9 r9 h
    unfold c_X9_readQuery_b8 at h
    replace h := ob h; obtain ⟨cs_29, hv_29, h⟩ := h
    obtain ⟨qk_29, qm_29⟩ := mo_c_X3_init F cs1 y1 y0 cs_29 hv_29
    obtain ⟨k9_29, m9_29⟩ := mo_c_X9_readQuery_b11 F T (fun c_ x_0 z_ r_ h_ => (hT_X9_readQuery c_ x_0 z_ r_ h_).1) (fun c_ x_0 z_ r_ h_ => (hT_X9_readSelect c_ x_0 z_ r_ h_).1) (fun c_ x_0 x_1 z_ h_ => (hT_X9_readSources c_ x_0 x_1 z_ h_).1) (fun c_ x_0 z_ r_ h_ => (hT_X9_readSource c_ x_0 z_ r_ h_).1) cs_29 u0 y2 cs9 r9 h
    refine caiV (As := [.ref (b + y0)]) hx hb hml hts hown hK hP hD hS hG hA (by omega) (by omega) hZ (sa_X3_init l dC dI cB cI cJ cZ cS cO b K V fz F cs1 y1 y0 cs_29 hv_29) (cw_X9_X3_init hts (fr := 8) (by show 8 + 1 ≤ n + 1 + 305; omega) (by show 8 + (2 + 11) + 60 * (8) ≤ 60 * (n + 1 + 305); omega)) rfl hl.1 (Nat.le_of_ble_eq_true rfl) ⟨by show kK cs1 - kK cs + (kK cs_29 - kK cs1) ≤ kK cs9 - kK cs; omega, by show kM cs1 - kM cs + (kM cs_29 - kM cs1) ≤ kM cs9 - kM cs; omega⟩ dX9_readQuery_8 (fun H locs hP hD hG hgz hS => ?_)
    refine W_cnt (c2 := kK cs_29 - kK cs) (n2 := kM cs_29 - kM cs) (by omega) (by omega) ?_
    exact B_11 cs_29 u0 y2 h (by omega) (by omega) _ _ _ _ hP hD hG (by omega) hS (lv_sub hl [0] rfl)
  have B_3 : ∀ (cs1 : CS) (u0 : Nat) (y0 : Nat), c_X9_readQuery_b3 F T cs1 u0 y0 = some (cs9, r9) → kK cs ≤ kK cs1 → kM cs ≤ kM cs1 → ∀ (Gh H : Heap) (locs : List Loc) (ls : Array Slot), va_P (dC, dI) vwCl (cW cB cI cJ cZ cS cO b cs1) H → va_D A (cW cB cI cJ cZ cS cO b cs1) → va_S A s.heap Gh [] → Gh.size = b + kK cs1 → va_S A Gh H locs → lv_has ls 7 [(0, .ref (b + u0))] → W p l e (headSpec (wsOf yX9_readQuery cX9_readQuery 7 (some (.object "StreamQueries$Query"))) ({ frames := n + 1 + 305, cells := kK cs9 - kK cs, slots := kM cs9 - kM cs, locals := 60 * (n + 1 + 305) } : Room)).room s m ([.ref (b + x0)] : List Value).toArray below meth c H locs (kK cs1 - kK cs) (kM cs1 - kM cs) (MQ below (va_Qr (fun (_ : Unit) => True) (fun _ a_ t_ => a_ = b + r9 ∧ va_P (dC, dI) vwCl (cW cB cI cJ cZ cS cO b cs9) t_.heap ∧ va_D A (cW cB cI cJ cZ cS cO b cs9) ∧ b + kK cs9 ≤ t_.heap.size) A) ([.ref (b + x0)] : List Value).toArray s (kK cs9 - kK cs) (kM cs9 - kM cs) A) (F0 m 3 ls [.ref (b + y0)]) := by
    intro cs1 u0 y0 h hmk hmm Gh H locs ls hP hD hG hgz hS hl
    obtain ⟨kb9, mb9⟩ := mo_c_X9_readQuery_b3 F T (fun c_ x_0 z_ r_ h_ => (hT_X9_readQuery c_ x_0 z_ r_ h_).1) (fun c_ x_0 z_ r_ h_ => (hT_X9_readSelect c_ x_0 z_ r_ h_).1) (fun c_ x_0 x_1 z_ h_ => (hT_X9_readSources c_ x_0 x_1 z_ h_).1) (fun c_ x_0 z_ r_ h_ => (hT_X9_readSource c_ x_0 z_ r_ h_).1) cs1 u0 y0 cs9 r9 h
    unfold c_X9_readQuery_b3 at h
    refine lv_dup hx hb dX9_readQuery_3 rfl ?_
    refine lv_aload_n hx hb dX9_readQuery_4 rfl (lv_at hl 0 rfl) ?_
    replace h := ob h; obtain ⟨w_31, hw_31, h⟩ := h
    replace h := ob h; obtain ⟨z_30, hv_30, h⟩ := h
    obtain ⟨qk_30, qm_30⟩ := (hT_X9_readSelect cs1 u0 z_30.1 z_30.2 hv_30).1
    obtain ⟨k9_30, m9_30⟩ := mo_c_X9_readQuery_b8 F T (fun c_ x_0 z_ r_ h_ => (hT_X9_readQuery c_ x_0 z_ r_ h_).1) (fun c_ x_0 z_ r_ h_ => (hT_X9_readSelect c_ x_0 z_ r_ h_).1) (fun c_ x_0 x_1 z_ h_ => (hT_X9_readSources c_ x_0 x_1 z_ h_).1) (fun c_ x_0 z_ r_ h_ => (hT_X9_readSource c_ x_0 z_ r_ h_).1) z_30.1 u0 z_30.2 y0 y0 cs9 r9 h
    refine cavR (As := []) hx hb hml hts hown hK hP hD hS hG hA (by omega) (by omega) hZ (X := 10) (by decide) rfl (ckE_some hw_31) (hT_X9_readSelect cs1 u0 z_30.1 z_30.2 hv_30) (cw_X9_X9_readSelect hts (fr := n + 305) (by show n + 305 + 1 ≤ n + 1 + 305; omega) (by show 8 + (5 + 11) + 60 * (n + 305) ≤ 60 * (n + 1 + 305); omega)) rfl hl.1 (Nat.le_of_ble_eq_true rfl) ⟨by show kK cs1 - kK cs + (kK z_30.1 - kK cs1) ≤ kK cs9 - kK cs; omega, by show kM cs1 - kM cs + (kM z_30.1 - kM cs1) ≤ kM cs9 - kM cs; omega⟩ dX9_readQuery_5 (fun H locs hP hD hG hgz hS => ?_)
    refine W_cnt (c2 := kK z_30.1 - kK cs) (n2 := kM z_30.1 - kM cs) (by omega) (by omega) ?_
    exact B_8 z_30.1 u0 z_30.2 y0 y0 h (by omega) (by omega) _ _ _ _ hP hD hG (by omega) hS (lv_sub hl [0] rfl)
  have h := hf
  unfold cb_X9_readQuery at h
  refine W_cnt (c2 := kK cs - kK cs) (n2 := kM cs - kM cs) (by omega) (by omega) ?_
  replace h := ob h; obtain ⟨cs_32, hv_32, h⟩ := h
  obtain ⟨qk_32, qm_32⟩ := nwO_k hv_32
  obtain ⟨k9_32, m9_32⟩ := mo_c_X9_readQuery_b3 F T (fun c_ x_0 z_ r_ h_ => (hT_X9_readQuery c_ x_0 z_ r_ h_).1) (fun c_ x_0 z_ r_ h_ => (hT_X9_readSelect c_ x_0 z_ r_ h_).1) (fun c_ x_0 x_1 z_ h_ => (hT_X9_readSources c_ x_0 x_1 z_ h_).1) (fun c_ x_0 z_ r_ h_ => (hT_X9_readSource c_ x_0 z_ r_ h_).1) cs_32 x0 (kK cs) cs9 r9 h
  refine new_X9_36 hx hb hts hown hK hP hD hS hG hA (by omega) (by omega) ⟨by show kK cs - kK cs + 1 ≤ kK cs9 - kK cs; omega, by show kM cs - kM cs + 6 ≤ kM cs9 - kM cs; omega⟩ hv_32 dX9_readQuery_0 (fun H locs hP hD hG hgz hS => ?_)
  refine W_cnt (c2 := kK cs_32 - kK cs) (n2 := kM cs_32 - kM cs) (by omega) (by omega) ?_
  exact B_3 cs_32 x0 (kK cs) h (by omega) (by omega) _ _ _ _ hP hD hG (by omega) hS (lv_sub hl [0] rfl)
set_option maxHeartbeats 4000000 in
set_option maxRecDepth 100000 in
theorem sba_X9_readSelect (l : Launch) (dC : Nat → ClassId) (dI : Nat → Nat → Nat) (cB cI cJ cZ cS cO : ClassId) (b : Nat) (K V : Nat → Nat) (fz : Value) (F : Nat) (n : Nat) (T : TC_X9_readQuery) (hT_X9_readQuery : ∀ (cs : CS) (x0 : Nat) (cs9 : CS) (r9 : Nat), T.1 cs x0 = some (cs9, r9) → oaR l dC dI cB cI cJ cZ cS cO b K V fz yX9_readQuery (wsOf yX9_readQuery cX9_readQuery 7 (some (.object "StreamQueries$Query"))) (n + 305) [.ref (b + x0)] cs cs9 r9) (hT_X9_readSelect : ∀ (cs : CS) (x0 : Nat) (cs9 : CS) (r9 : Nat), T.2.1 cs x0 = some (cs9, r9) → oaR l dC dI cB cI cJ cZ cS cO b K V fz yX9_readSelect (wsOf yX9_readSelect cX9_readSelect 5 (some (.object "StreamQueries$Select"))) (n + 305) [.ref (b + x0)] cs cs9 r9) (hT_X9_readSources : ∀ (cs : CS) (x0 : Nat) (x1 : Nat) (cs9 : CS), T.2.2.1 cs x0 x1 = some cs9 → oaV l dC dI cB cI cJ cZ cS cO b K V fz yX9_readSources (wsOf yX9_readSources cX9_readSources 6 none) (n + 305) [.ref (b + x0), .ref (b + x1)] cs cs9) (hT_X9_readSource : ∀ (cs : CS) (x0 : Nat) (cs9 : CS) (r9 : Nat), T.2.2.2 cs x0 = some (cs9, r9) → oaR l dC dI cB cI cJ cZ cS cO b K V fz yX9_readSource (wsOf yX9_readSource cX9_readSource 2 (some (.object "StreamQueries$Source"))) (n + 305) [.ref (b + x0)] cs cs9 r9) (cs : CS) (x0 : Nat) (cs9 : CS) (r9 : Nat) (hf : cb_X9_readSelect F T cs x0 = some (cs9, r9)) : oaR l dC dI cB cI cJ cZ cS cO b K V fz yX9_readSelect (wsOf yX9_readSelect cX9_readSelect 5 (some (.object "StreamQueries$Select"))) (n + 1 + 305) [.ref (b + x0)] cs cs9 r9 := by
  obtain ⟨kb9, mb9⟩ := mo_cb_X9_readSelect F T (fun c_ x_0 z_ r_ h_ => (hT_X9_readQuery c_ x_0 z_ r_ h_).1) (fun c_ x_0 z_ r_ h_ => (hT_X9_readSelect c_ x_0 z_ r_ h_).1) (fun c_ x_0 x_1 z_ h_ => (hT_X9_readSources c_ x_0 x_1 z_ h_).1) (fun c_ x_0 z_ r_ h_ => (hT_X9_readSource c_ x_0 z_ r_ h_).1) cs x0 cs9 r9 hf
  refine ⟨⟨kb9, mb9⟩, ?_⟩
  refine Met.ofW (cc := cX9_readSelect) (maxL := 5) (ret := (some (.object "StreamQueries$Select"))) (by decide) rfl ?_
  intro p e s m args below meth c s₁ B hml hv
  obtain ⟨rfl, hsz, hP, hK, hD0, hZ⟩ := hv
  have hx := B.exec
  have hb := B.bytes
  have hr := B.returns
  have hts := atoms_spec (ws := (wsOf yX9_readSelect cX9_readSelect 5 (some (.object "StreamQueries$Select")))) B.pre
  have hown : s.vm.findClass RX9 = some m.cls := findClass_of_methodNamed B.named
  have hlocks := B.notSynchronized
  have hD := hD0.self (sz := b + kK cs)
  generalize hAe : va_A (cW cB cI cJ cZ cS cO b cs) (b + kK cs) = A at hD hZ ⊢
  have hA : ∀ q : Nat, s.heap.size ≤ q → A q := fun q h => by rw [← hAe]; exact Or.inr (by omega)
  have hS : va_S A s.heap s.heap [] := va_S.rf
  have hG : va_S A s.heap s.heap [] := va_S.rf
  have hgz : s.heap.size = b + kK cs := hsz
  have hl := lv_entry ([.ref (b + x0)]) (n := 5) (Nat.le_of_ble_eq_true rfl)
  rw [lg_entry_eq]
  generalize (lg_sl ([.ref (b + x0)]) ++ List.replicate (5 - (lg_sl ([.ref (b + x0)])).length) Slot.unset).toArray = ls at hl ⊢
  have hl : lv_has ls 5 [(0, .ref (b + x0))] := hl
  have B_151 : ∀ (cs1 : CS) (u0 : Nat) (u1 : Option Nat) (u2 : Nat), c_X9_readSelect_b151 F T cs1 u0 u1 u2 = some (cs9, r9) → kK cs ≤ kK cs1 → kM cs ≤ kM cs1 → ∀ (Gh H : Heap) (locs : List Loc) (ls : Array Slot), va_P (dC, dI) vwCl (cW cB cI cJ cZ cS cO b cs1) H → va_D A (cW cB cI cJ cZ cS cO b cs1) → va_S A s.heap Gh [] → Gh.size = b + kK cs1 → va_S A Gh H locs → lv_has ls 5 [(0, .ref (b + u0)), (1, rv b u1), (2, .ref (b + u2))] → W p l e (headSpec (wsOf yX9_readSelect cX9_readSelect 5 (some (.object "StreamQueries$Select"))) ({ frames := n + 1 + 305, cells := kK cs9 - kK cs, slots := kM cs9 - kM cs, locals := 60 * (n + 1 + 305) } : Room)).room s m ([.ref (b + x0)] : List Value).toArray below meth c H locs (kK cs1 - kK cs) (kM cs1 - kM cs) (MQ below (va_Qr (fun (_ : Unit) => True) (fun _ a_ t_ => a_ = b + r9 ∧ va_P (dC, dI) vwCl (cW cB cI cJ cZ cS cO b cs9) t_.heap ∧ va_D A (cW cB cI cJ cZ cS cO b cs9) ∧ b + kK cs9 ≤ t_.heap.size) A) ([.ref (b + x0)] : List Value).toArray s (kK cs9 - kK cs) (kM cs9 - kM cs) A) (F0 m 151 ls []) := by
    intro cs1 u0 u1 u2 h hmk hmm Gh H locs ls hP hD hG hgz hS hl
    obtain ⟨kb9, mb9⟩ := mo_c_X9_readSelect_b151 F T (fun c_ x_0 z_ r_ h_ => (hT_X9_readQuery c_ x_0 z_ r_ h_).1) (fun c_ x_0 z_ r_ h_ => (hT_X9_readSelect c_ x_0 z_ r_ h_).1) (fun c_ x_0 x_1 z_ h_ => (hT_X9_readSources c_ x_0 x_1 z_ h_).1) (fun c_ x_0 z_ r_ h_ => (hT_X9_readSource c_ x_0 z_ r_ h_).1) cs1 u0 u1 u2 cs9 r9 h
    unfold c_X9_readSelect_b151 at h
    refine lv_aload_n hx hb dX9_readSelect_151 rfl (lv_at hl 0 rfl) ?_
    refine lv_aload_nO hx hb dX9_readSelect_152 rfl (lv_at hl 1 rfl) ?_
    replace h := ob h; obtain ⟨cs_1, hv_1, h⟩ := h
    obtain ⟨qk_1, qm_1⟩ := pR_k hv_1
    refine fp_X9_198 (v := u1) hx hb hts hown hK hP hD hS hv_1 dX9_readSelect_153 (fun H locs hP hD hS => ?_)
    refine lv_aload_n hx hb dX9_readSelect_156 rfl (lv_at hl 2 rfl) ?_
    obtain ⟨e1, e2⟩ := Prod.mk.inj (Option.some.inj h)
    rw [e1] at hP hD
    have e3 := congrArg kK e1
    have e4 := congrArg kM e1
    refine W_cnt (c2 := kK cs9 - kK cs) (n2 := kM cs9 - kM cs) (by omega) (by omega) ?_
    exact W.aret (v := .ref (b + u2)) hx hb hr (Or.inl ⟨_, rfl⟩) (Or.inr ⟨_, rfl⟩) (fun t_ ht hW => ⟨⟨(), b + u2, rfl, trivial, by rw [e2], by rw [ht]; exact hP, hD, by rw [ht]; have := hS.1; omega⟩, (hG.comp hS).F ht⟩) (hG.comp hS).2.2 dX9_readSelect_157
  have B_129 : ∀ (cs1 : CS) (u0 : Nat) (u1 : Option Nat) (u2 : Nat), c_X9_readSelect_b129 F T cs1 u0 u1 u2 = some (cs9, r9) → kK cs ≤ kK cs1 → kM cs ≤ kM cs1 → ∀ (Gh H : Heap) (locs : List Loc) (ls : Array Slot), va_P (dC, dI) vwCl (cW cB cI cJ cZ cS cO b cs1) H → va_D A (cW cB cI cJ cZ cS cO b cs1) → va_S A s.heap Gh [] → Gh.size = b + kK cs1 → va_S A Gh H locs → lv_has ls 5 [(0, .ref (b + u0)), (1, rv b u1), (2, .ref (b + u2))] → W p l e (headSpec (wsOf yX9_readSelect cX9_readSelect 5 (some (.object "StreamQueries$Select"))) ({ frames := n + 1 + 305, cells := kK cs9 - kK cs, slots := kM cs9 - kM cs, locals := 60 * (n + 1 + 305) } : Room)).room s m ([.ref (b + x0)] : List Value).toArray below meth c H locs (kK cs1 - kK cs) (kM cs1 - kM cs) (MQ below (va_Qr (fun (_ : Unit) => True) (fun _ a_ t_ => a_ = b + r9 ∧ va_P (dC, dI) vwCl (cW cB cI cJ cZ cS cO b cs9) t_.heap ∧ va_D A (cW cB cI cJ cZ cS cO b cs9) ∧ b + kK cs9 ≤ t_.heap.size) A) ([.ref (b + x0)] : List Value).toArray s (kK cs9 - kK cs) (kM cs9 - kM cs) A) (F0 m 129 ls []) := by
    intro cs1 u0 u1 u2 h hmk hmm Gh H locs ls hP hD hG hgz hS hl
    obtain ⟨kb9, mb9⟩ := mo_c_X9_readSelect_b129 F T (fun c_ x_0 z_ r_ h_ => (hT_X9_readQuery c_ x_0 z_ r_ h_).1) (fun c_ x_0 z_ r_ h_ => (hT_X9_readSelect c_ x_0 z_ r_ h_).1) (fun c_ x_0 x_1 z_ h_ => (hT_X9_readSources c_ x_0 x_1 z_ h_).1) (fun c_ x_0 z_ r_ h_ => (hT_X9_readSource c_ x_0 z_ r_ h_).1) cs1 u0 u1 u2 cs9 r9 h
    unfold c_X9_readSelect_b129 at h
    refine lv_aload_n hx hb dX9_readSelect_129 rfl (lv_at hl 0 rfl) ?_
    refine lv_iconst (v := 1) hx hb dX9_readSelect_130 (by decide) ?_
    replace h := ob h; obtain ⟨cs_2, hv_2, h⟩ := h
    obtain ⟨qk_2, qm_2⟩ := pI_k hv_2
    refine fp_X9_163 hx hb hts hown hK hP hD hS (Or.inr rfl) hv_2 dX9_readSelect_131 (fun H locs hP hD hS => ?_)
    refine lv_aload_n hx hb dX9_readSelect_134 rfl (lv_at hl 0 rfl) ?_
    refine lv_bipush (v := 9) hx hb dX9_readSelect_135 (by decide) ?_
    replace h := ob h; obtain ⟨w_4, hw_4, h⟩ := h
    replace h := ob h; obtain ⟨z_3, hv_3, h⟩ := h
    obtain ⟨qk_3, qm_3⟩ := k_of (mo_c_X9_accept F cs_2 u0 9 z_3.1 z_3.2 hv_3)
    refine cbvI (As := [.int 9]) hx hb hml hts hown hK hP hD hS hG hA (by omega) (by omega) hZ (X := 10) (by decide) rfl (ckE_some hw_4) (sc_X9_accept l dC dI cB cI cJ cZ cS cO b K V fz F cs_2 u0 9 z_3.1 z_3.2 hv_3) (cw_X9_X9_accept hts (fr := 1) (by show 1 + 1 ≤ n + 1 + 305; omega) (by show 8 + (3 + 11) + 60 * (1) ≤ 60 * (n + 1 + 305); omega)) rfl hl.1 (Nat.le_of_ble_eq_true rfl) ⟨by show kK cs1 - kK cs ≤ kK cs9 - kK cs; omega, by show kM cs1 - kM cs ≤ kM cs9 - kM cs; omega⟩ dX9_readSelect_137 (fun H locs hP hD hG hgz hS => ?_)
    refine lv_if_eq (tgt := 151) hx hb dX9_readSelect_140 (by decide) (fun c_5 => ?_) (fun c_5 => ?_)
    · skip
      replace h := (if_pos c_5).symm.trans h
      refine W_cnt (c2 := kK z_3.1 - kK cs) (n2 := kM z_3.1 - kM cs) (by omega) (by omega) ?_
      exact B_151 z_3.1 u0 u1 u2 h (by omega) (by omega) _ _ _ _ hP hD hG (by omega) hS (lv_sub hl [0, 1, 2] rfl)
    · skip
      replace h := (if_neg c_5).symm.trans h
      refine lv_aload_n hx hb dX9_readSelect_143 rfl (lv_at hl 2 rfl) ?_
      refine lv_aload_n hx hb dX9_readSelect_144 rfl (lv_at hl 0 rfl) ?_
      replace h := ob h; obtain ⟨w_7, hw_7, h⟩ := h
      replace h := ob h; obtain ⟨z_6, hv_6, h⟩ := h
      obtain ⟨qk_6, qm_6⟩ := k_of (mo_c_X9_readExpr F 300 z_3.1 u0 z_6.1 z_6.2 hv_6)
      refine cbvI (As := []) hx hb hml hts hown hK hP hD hS hG hA (by omega) (by omega) hZ (X := 10) (by decide) rfl (ckE_some hw_7) (sc_X9_readExpr l dC dI cB cI cJ cZ cS cO b K V fz F 300 z_3.1 u0 z_6.1 z_6.2 hv_6) (cw_X9_X9_readExpr hts (fr := 303) (by show 303 + 1 ≤ n + 1 + 305; omega) (by show 8 + (5 + 11) + 60 * (303) ≤ 60 * (n + 1 + 305); omega)) rfl hl.1 (Nat.le_of_ble_eq_true rfl) ⟨by show kK cs1 - kK cs ≤ kK cs9 - kK cs; omega, by show kM cs1 - kM cs ≤ kM cs9 - kM cs; omega⟩ dX9_readSelect_145 (fun H locs hP hD hG hgz hS => ?_)
      replace h := ob h; obtain ⟨cs_8, hv_8, h⟩ := h
      obtain ⟨qk_8, qm_8⟩ := pI_k hv_8
      refine fp_X9_222 hx hb hts hown hK hP hD hS hv_8 dX9_readSelect_148 (fun H locs hP hD hS => ?_)
      refine W_cnt (c2 := kK cs_8 - kK cs) (n2 := kM cs_8 - kM cs) (by omega) (by omega) ?_
      exact B_151 cs_8 u0 u1 u2 h (by omega) (by omega) _ _ _ _ hP hD hG (by omega) hS (lv_sub hl [0, 1, 2] rfl)
  have B_115 : ∀ (cs1 : CS) (u0 : Nat) (u1 : Option Nat) (u2 : Nat), c_X9_readSelect_b115 F T cs1 u0 u1 u2 = some (cs9, r9) → kK cs ≤ kK cs1 → kM cs ≤ kM cs1 → ∀ (Gh H : Heap) (locs : List Loc) (ls : Array Slot), va_P (dC, dI) vwCl (cW cB cI cJ cZ cS cO b cs1) H → va_D A (cW cB cI cJ cZ cS cO b cs1) → va_S A s.heap Gh [] → Gh.size = b + kK cs1 → va_S A Gh H locs → lv_has ls 5 [(0, .ref (b + u0)), (1, rv b u1), (2, .ref (b + u2))] → W p l e (headSpec (wsOf yX9_readSelect cX9_readSelect 5 (some (.object "StreamQueries$Select"))) ({ frames := n + 1 + 305, cells := kK cs9 - kK cs, slots := kM cs9 - kM cs, locals := 60 * (n + 1 + 305) } : Room)).room s m ([.ref (b + x0)] : List Value).toArray below meth c H locs (kK cs1 - kK cs) (kM cs1 - kM cs) (MQ below (va_Qr (fun (_ : Unit) => True) (fun _ a_ t_ => a_ = b + r9 ∧ va_P (dC, dI) vwCl (cW cB cI cJ cZ cS cO b cs9) t_.heap ∧ va_D A (cW cB cI cJ cZ cS cO b cs9) ∧ b + kK cs9 ≤ t_.heap.size) A) ([.ref (b + x0)] : List Value).toArray s (kK cs9 - kK cs) (kM cs9 - kM cs) A) (F0 m 115 ls []) := by
    intro cs1 u0 u1 u2 h hmk hmm Gh H locs ls hP hD hG hgz hS hl
    obtain ⟨kb9, mb9⟩ := mo_c_X9_readSelect_b115 F T (fun c_ x_0 z_ r_ h_ => (hT_X9_readQuery c_ x_0 z_ r_ h_).1) (fun c_ x_0 z_ r_ h_ => (hT_X9_readSelect c_ x_0 z_ r_ h_).1) (fun c_ x_0 x_1 z_ h_ => (hT_X9_readSources c_ x_0 x_1 z_ h_).1) (fun c_ x_0 z_ r_ h_ => (hT_X9_readSource c_ x_0 z_ r_ h_).1) cs1 u0 u1 u2 cs9 r9 h
    unfold c_X9_readSelect_b115 at h
    refine lv_aload_n hx hb dX9_readSelect_115 rfl (lv_at hl 0 rfl) ?_
    replace h := ob h; obtain ⟨w_10, hw_10, h⟩ := h
    replace h := ob h; obtain ⟨v_9, hv_9, h⟩ := h
    refine cbvI (As := []) hx hb hml hts hown hK hP hD hS hG hA (by omega) (by omega) hZ (X := 10) (by decide) rfl (ckE_some hw_10) (sc_X9_kind l dC dI cB cI cJ cZ cS cO b K V fz F cs1 u0 v_9 hv_9) (cw_X9_X9_kind hts (fr := 0) (by show 0 + 1 ≤ n + 1 + 305; omega) (by show 8 + (1 + 11) + 60 * (0) ≤ 60 * (n + 1 + 305); omega)) rfl hl.1 (Nat.le_of_ble_eq_true rfl) ⟨by show kK cs1 - kK cs ≤ kK cs9 - kK cs; omega, by show kM cs1 - kM cs ≤ kM cs9 - kM cs; omega⟩ dX9_readSelect_116 (fun H locs hP hD hG hgz hS => ?_)
    refine lv_bipush (v := 7) hx hb dX9_readSelect_119 (by decide) ?_
    refine lv_icmp_ne (tgt := 129) hx hb dX9_readSelect_121 (by decide) (fun c_11 => ?_) (fun c_11 => ?_)
    · skip
      replace h := (if_neg c_11).symm.trans h
      refine W_cnt (c2 := kK cs1 - kK cs) (n2 := kM cs1 - kM cs) (by omega) (by omega) ?_
      exact B_129 cs1 u0 u1 u2 h (by omega) (by omega) _ _ _ _ hP hD hG (by omega) hS (lv_sub hl [0, 1, 2] rfl)
    · skip
      replace h := (if_pos c_11).symm.trans h
      refine lv_aload_n hx hb dX9_readSelect_124 rfl (lv_at hl 0 rfl) ?_
      refine lv_aload_n hx hb dX9_readSelect_125 rfl (lv_at hl 2 rfl) ?_
      replace h := ob h; obtain ⟨w_13, hw_13, h⟩ := h
      replace h := ob h; obtain ⟨cs_12, hv_12, h⟩ := h
      obtain ⟨qk_12, qm_12⟩ := k_of (mo_c_X9_readGroups F cs1 u0 u2 cs_12 hv_12)
      refine cbvV (As := [.ref (b + u2)]) hx hb hml hts hown hK hP hD hS hG hA (by omega) (by omega) hZ (X := 10) (by decide) rfl (ckE_some hw_13) (sc_X9_readGroups l dC dI cB cI cJ cZ cS cO b K V fz F cs1 u0 u2 cs_12 hv_12) (cw_X9_X9_readGroups hts (fr := 304) (by show 304 + 1 ≤ n + 1 + 305; omega) (by show 8 + (6 + 11) + 60 * (304) ≤ 60 * (n + 1 + 305); omega)) rfl hl.1 (Nat.le_of_ble_eq_true rfl) ⟨by show kK cs1 - kK cs ≤ kK cs9 - kK cs; omega, by show kM cs1 - kM cs ≤ kM cs9 - kM cs; omega⟩ dX9_readSelect_126 (fun H locs hP hD hG hgz hS => ?_)
      refine W_cnt (c2 := kK cs_12 - kK cs) (n2 := kM cs_12 - kM cs) (by omega) (by omega) ?_
      exact B_129 cs_12 u0 u1 u2 h (by omega) (by omega) _ _ _ _ hP hD hG (by omega) hS (lv_sub hl [0, 1, 2] rfl)
  have B_93 : ∀ (cs1 : CS) (u0 : Nat) (u1 : Option Nat) (u2 : Nat), c_X9_readSelect_b93 F T cs1 u0 u1 u2 = some (cs9, r9) → kK cs ≤ kK cs1 → kM cs ≤ kM cs1 → ∀ (Gh H : Heap) (locs : List Loc) (ls : Array Slot), va_P (dC, dI) vwCl (cW cB cI cJ cZ cS cO b cs1) H → va_D A (cW cB cI cJ cZ cS cO b cs1) → va_S A s.heap Gh [] → Gh.size = b + kK cs1 → va_S A Gh H locs → lv_has ls 5 [(0, .ref (b + u0)), (1, rv b u1), (2, .ref (b + u2))] → W p l e (headSpec (wsOf yX9_readSelect cX9_readSelect 5 (some (.object "StreamQueries$Select"))) ({ frames := n + 1 + 305, cells := kK cs9 - kK cs, slots := kM cs9 - kM cs, locals := 60 * (n + 1 + 305) } : Room)).room s m ([.ref (b + x0)] : List Value).toArray below meth c H locs (kK cs1 - kK cs) (kM cs1 - kM cs) (MQ below (va_Qr (fun (_ : Unit) => True) (fun _ a_ t_ => a_ = b + r9 ∧ va_P (dC, dI) vwCl (cW cB cI cJ cZ cS cO b cs9) t_.heap ∧ va_D A (cW cB cI cJ cZ cS cO b cs9) ∧ b + kK cs9 ≤ t_.heap.size) A) ([.ref (b + x0)] : List Value).toArray s (kK cs9 - kK cs) (kM cs9 - kM cs) A) (F0 m 93 ls []) := by
    intro cs1 u0 u1 u2 h hmk hmm Gh H locs ls hP hD hG hgz hS hl
    obtain ⟨kb9, mb9⟩ := mo_c_X9_readSelect_b93 F T (fun c_ x_0 z_ r_ h_ => (hT_X9_readQuery c_ x_0 z_ r_ h_).1) (fun c_ x_0 z_ r_ h_ => (hT_X9_readSelect c_ x_0 z_ r_ h_).1) (fun c_ x_0 x_1 z_ h_ => (hT_X9_readSources c_ x_0 x_1 z_ h_).1) (fun c_ x_0 z_ r_ h_ => (hT_X9_readSource c_ x_0 z_ r_ h_).1) cs1 u0 u1 u2 cs9 r9 h
    unfold c_X9_readSelect_b93 at h
    refine lv_aload_n hx hb dX9_readSelect_93 rfl (lv_at hl 0 rfl) ?_
    refine lv_iconst (v := 0) hx hb dX9_readSelect_94 (by decide) ?_
    replace h := ob h; obtain ⟨cs_14, hv_14, h⟩ := h
    obtain ⟨qk_14, qm_14⟩ := pI_k hv_14
    refine fp_X9_163 hx hb hts hown hK hP hD hS (Or.inl rfl) hv_14 dX9_readSelect_95 (fun H locs hP hD hS => ?_)
    refine lv_aload_n hx hb dX9_readSelect_98 rfl (lv_at hl 0 rfl) ?_
    refine lv_bipush (v := 6) hx hb dX9_readSelect_99 (by decide) ?_
    replace h := ob h; obtain ⟨w_16, hw_16, h⟩ := h
    replace h := ob h; obtain ⟨z_15, hv_15, h⟩ := h
    obtain ⟨qk_15, qm_15⟩ := k_of (mo_c_X9_accept F cs_14 u0 6 z_15.1 z_15.2 hv_15)
    refine cbvI (As := [.int 6]) hx hb hml hts hown hK hP hD hS hG hA (by omega) (by omega) hZ (X := 10) (by decide) rfl (ckE_some hw_16) (sc_X9_accept l dC dI cB cI cJ cZ cS cO b K V fz F cs_14 u0 6 z_15.1 z_15.2 hv_15) (cw_X9_X9_accept hts (fr := 1) (by show 1 + 1 ≤ n + 1 + 305; omega) (by show 8 + (3 + 11) + 60 * (1) ≤ 60 * (n + 1 + 305); omega)) rfl hl.1 (Nat.le_of_ble_eq_true rfl) ⟨by show kK cs1 - kK cs ≤ kK cs9 - kK cs; omega, by show kM cs1 - kM cs ≤ kM cs9 - kM cs; omega⟩ dX9_readSelect_101 (fun H locs hP hD hG hgz hS => ?_)
    refine lv_if_eq (tgt := 115) hx hb dX9_readSelect_104 (by decide) (fun c_17 => ?_) (fun c_17 => ?_)
    · skip
      replace h := (if_pos c_17).symm.trans h
      refine W_cnt (c2 := kK z_15.1 - kK cs) (n2 := kM z_15.1 - kM cs) (by omega) (by omega) ?_
      exact B_115 z_15.1 u0 u1 u2 h (by omega) (by omega) _ _ _ _ hP hD hG (by omega) hS (lv_sub hl [0, 1, 2] rfl)
    · skip
      replace h := (if_neg c_17).symm.trans h
      refine lv_aload_n hx hb dX9_readSelect_107 rfl (lv_at hl 2 rfl) ?_
      refine lv_aload_n hx hb dX9_readSelect_108 rfl (lv_at hl 0 rfl) ?_
      replace h := ob h; obtain ⟨w_19, hw_19, h⟩ := h
      replace h := ob h; obtain ⟨z_18, hv_18, h⟩ := h
      obtain ⟨qk_18, qm_18⟩ := k_of (mo_c_X9_readExpr F 300 z_15.1 u0 z_18.1 z_18.2 hv_18)
      refine cbvI (As := []) hx hb hml hts hown hK hP hD hS hG hA (by omega) (by omega) hZ (X := 10) (by decide) rfl (ckE_some hw_19) (sc_X9_readExpr l dC dI cB cI cJ cZ cS cO b K V fz F 300 z_15.1 u0 z_18.1 z_18.2 hv_18) (cw_X9_X9_readExpr hts (fr := 303) (by show 303 + 1 ≤ n + 1 + 305; omega) (by show 8 + (5 + 11) + 60 * (303) ≤ 60 * (n + 1 + 305); omega)) rfl hl.1 (Nat.le_of_ble_eq_true rfl) ⟨by show kK cs1 - kK cs ≤ kK cs9 - kK cs; omega, by show kM cs1 - kM cs ≤ kM cs9 - kM cs; omega⟩ dX9_readSelect_109 (fun H locs hP hD hG hgz hS => ?_)
      replace h := ob h; obtain ⟨cs_20, hv_20, h⟩ := h
      obtain ⟨qk_20, qm_20⟩ := pI_k hv_20
      refine fp_X9_216 hx hb hts hown hK hP hD hS hv_20 dX9_readSelect_112 (fun H locs hP hD hS => ?_)
      refine W_cnt (c2 := kK cs_20 - kK cs) (n2 := kM cs_20 - kM cs) (by omega) (by omega) ?_
      exact B_115 cs_20 u0 u1 u2 h (by omega) (by omega) _ _ _ _ hP hD hG (by omega) hS (lv_sub hl [0, 1, 2] rfl)
  have B_83 : ∀ (cs1 : CS) (u0 : Nat) (u1 : Option Nat) (u2 : Nat), c_X9_readSelect_b83 F T cs1 u0 u1 u2 = some (cs9, r9) → kK cs ≤ kK cs1 → kM cs ≤ kM cs1 → ∀ (Gh H : Heap) (locs : List Loc) (ls : Array Slot), va_P (dC, dI) vwCl (cW cB cI cJ cZ cS cO b cs1) H → va_D A (cW cB cI cJ cZ cS cO b cs1) → va_S A s.heap Gh [] → Gh.size = b + kK cs1 → va_S A Gh H locs → lv_has ls 5 [(0, .ref (b + u0)), (1, rv b u1), (2, .ref (b + u2))] → W p l e (headSpec (wsOf yX9_readSelect cX9_readSelect 5 (some (.object "StreamQueries$Select"))) ({ frames := n + 1 + 305, cells := kK cs9 - kK cs, slots := kM cs9 - kM cs, locals := 60 * (n + 1 + 305) } : Room)).room s m ([.ref (b + x0)] : List Value).toArray below meth c H locs (kK cs1 - kK cs) (kM cs1 - kM cs) (MQ below (va_Qr (fun (_ : Unit) => True) (fun _ a_ t_ => a_ = b + r9 ∧ va_P (dC, dI) vwCl (cW cB cI cJ cZ cS cO b cs9) t_.heap ∧ va_D A (cW cB cI cJ cZ cS cO b cs9) ∧ b + kK cs9 ≤ t_.heap.size) A) ([.ref (b + x0)] : List Value).toArray s (kK cs9 - kK cs) (kM cs9 - kM cs) A) (F0 m 83 ls []) := by
    intro cs1 u0 u1 u2 h hmk hmm Gh H locs ls hP hD hG hgz hS hl
    obtain ⟨kb9, mb9⟩ := mo_c_X9_readSelect_b83 F T (fun c_ x_0 z_ r_ h_ => (hT_X9_readQuery c_ x_0 z_ r_ h_).1) (fun c_ x_0 z_ r_ h_ => (hT_X9_readSelect c_ x_0 z_ r_ h_).1) (fun c_ x_0 x_1 z_ h_ => (hT_X9_readSources c_ x_0 x_1 z_ h_).1) (fun c_ x_0 z_ r_ h_ => (hT_X9_readSource c_ x_0 z_ r_ h_).1) cs1 u0 u1 u2 cs9 r9 h
    unfold c_X9_readSelect_b83 at h
    refine lv_aload_n hx hb dX9_readSelect_83 rfl (lv_at hl 0 rfl) ?_
    refine lv_iconst (v := 2) hx hb dX9_readSelect_84 (by decide) ?_
    replace h := ob h; obtain ⟨w_22, hw_22, h⟩ := h
    replace h := ob h; obtain ⟨cs_21, hv_21, h⟩ := h
    obtain ⟨qk_21, qm_21⟩ := k_of (mo_c_X9_expect F cs1 u0 2 cs_21 hv_21)
    refine cbvV (As := [.int 2]) hx hb hml hts hown hK hP hD hS hG hA (by omega) (by omega) hZ (X := 10) (by decide) rfl (ckE_some hw_22) (sc_X9_expect l dC dI cB cI cJ cZ cS cO b K V fz F cs1 u0 2 cs_21 hv_21) (cw_X9_X9_expect hts (fr := 1) (by show 1 + 1 ≤ n + 1 + 305; omega) (by show 8 + (2 + 11) + 60 * (1) ≤ 60 * (n + 1 + 305); omega)) rfl hl.1 (Nat.le_of_ble_eq_true rfl) ⟨by show kK cs1 - kK cs ≤ kK cs9 - kK cs; omega, by show kM cs1 - kM cs ≤ kM cs9 - kM cs; omega⟩ dX9_readSelect_85 (fun H locs hP hD hG hgz hS => ?_)
    refine lv_aload_n hx hb dX9_readSelect_88 rfl (lv_at hl 0 rfl) ?_
    refine lv_aload_n hx hb dX9_readSelect_89 rfl (lv_at hl 2 rfl) ?_
    replace h := ob h; obtain ⟨w_24, hw_24, h⟩ := h
    replace h := ob h; obtain ⟨cs_23, hv_23, h⟩ := h
    obtain ⟨qk_23, qm_23⟩ := (hT_X9_readSources cs_21 u0 u2 cs_23 hv_23).1
    obtain ⟨k9_23, m9_23⟩ := mo_c_X9_readSelect_b93 F T (fun c_ x_0 z_ r_ h_ => (hT_X9_readQuery c_ x_0 z_ r_ h_).1) (fun c_ x_0 z_ r_ h_ => (hT_X9_readSelect c_ x_0 z_ r_ h_).1) (fun c_ x_0 x_1 z_ h_ => (hT_X9_readSources c_ x_0 x_1 z_ h_).1) (fun c_ x_0 z_ r_ h_ => (hT_X9_readSource c_ x_0 z_ r_ h_).1) cs_23 u0 u1 u2 cs9 r9 h
    refine cavV (As := [.ref (b + u2)]) hx hb hml hts hown hK hP hD hS hG hA (by omega) (by omega) hZ (X := 10) (by decide) rfl (ckE_some hw_24) (hT_X9_readSources cs_21 u0 u2 cs_23 hv_23) (cw_X9_X9_readSources hts (fr := n + 305) (by show n + 305 + 1 ≤ n + 1 + 305; omega) (by show 8 + (6 + 11) + 60 * (n + 305) ≤ 60 * (n + 1 + 305); omega)) rfl hl.1 (Nat.le_of_ble_eq_true rfl) ⟨by show kK cs1 - kK cs + (kK cs_23 - kK cs_21) ≤ kK cs9 - kK cs; omega, by show kM cs1 - kM cs + (kM cs_23 - kM cs_21) ≤ kM cs9 - kM cs; omega⟩ dX9_readSelect_90 (fun H locs hP hD hG hgz hS => ?_)
    refine W_cnt (c2 := kK cs_23 - kK cs) (n2 := kM cs_23 - kM cs) (by omega) (by omega) ?_
    exact B_93 cs_23 u0 u1 u2 h (by omega) (by omega) _ _ _ _ hP hD hG (by omega) hS (lv_sub hl [0, 1, 2] rfl)
  have L_50 : ∀ (lf_50 : Nat), ∀ (cs1 : CS) (u0 : Nat) (u1 : Option Nat) (u2 : Nat) (u3 : Int32) (u4 : Int32), c_X9_readSelect_L50 F T lf_50 cs1 u0 u1 u2 u3 u4 = some (cs9, r9) → kK cs ≤ kK cs1 → kM cs ≤ kM cs1 → ∀ (Gh H : Heap) (locs : List Loc) (ls : Array Slot), va_P (dC, dI) vwCl (cW cB cI cJ cZ cS cO b cs1) H → va_D A (cW cB cI cJ cZ cS cO b cs1) → va_S A s.heap Gh [] → Gh.size = b + kK cs1 → va_S A Gh H locs → lv_has ls 5 [(0, .ref (b + u0)), (1, rv b u1), (2, .ref (b + u2)), (3, .int u3), (4, .int u4)] → W p l e (headSpec (wsOf yX9_readSelect cX9_readSelect 5 (some (.object "StreamQueries$Select"))) ({ frames := n + 1 + 305, cells := kK cs9 - kK cs, slots := kM cs9 - kM cs, locals := 60 * (n + 1 + 305) } : Room)).room s m ([.ref (b + x0)] : List Value).toArray below meth c H locs (kK cs1 - kK cs) (kM cs1 - kM cs) (MQ below (va_Qr (fun (_ : Unit) => True) (fun _ a_ t_ => a_ = b + r9 ∧ va_P (dC, dI) vwCl (cW cB cI cJ cZ cS cO b cs9) t_.heap ∧ va_D A (cW cB cI cJ cZ cS cO b cs9) ∧ b + kK cs9 ≤ t_.heap.size) A) ([.ref (b + x0)] : List Value).toArray s (kK cs9 - kK cs) (kM cs9 - kM cs) A) (F0 m 50 ls []) := by
    intro lf_50
    induction lf_50 with
    | zero => intro cs1 u0 u1 u2 u3 u4 h; cases (show (none : Option (CS × Nat)) = _ from h)
    | succ lf_50 ih_50 =>
      intro cs1 u0 u1 u2 u3 u4 h hmk hmm Gh H locs ls hP hD hG hgz hS hl
      obtain ⟨kb9, mb9⟩ := mo_c_X9_readSelect_L50 F T (fun c_ x_0 z_ r_ h_ => (hT_X9_readQuery c_ x_0 z_ r_ h_).1) (fun c_ x_0 z_ r_ h_ => (hT_X9_readSelect c_ x_0 z_ r_ h_).1) (fun c_ x_0 x_1 z_ h_ => (hT_X9_readSources c_ x_0 x_1 z_ h_).1) (fun c_ x_0 z_ r_ h_ => (hT_X9_readSource c_ x_0 z_ r_ h_).1) (lf_50 + 1) cs1 u0 u1 u2 u3 u4 cs9 r9 h
      rw [c_X9_readSelect_L50] at h
      refine lv_iload hx hb dX9_readSelect_50 (lv_at hl 4 rfl) ?_
      refine lv_sipush (v := 2000) hx hb dX9_readSelect_52 (by decide) ?_
      refine lv_icmp_ge (tgt := 83) hx hb dX9_readSelect_55 (by decide) (fun c_25 => ?_) (fun c_25 => ?_)
      · skip
        replace h := (if_pos c_25).symm.trans h
        refine W_cnt (c2 := kK cs1 - kK cs) (n2 := kM cs1 - kM cs) (by omega) (by omega) ?_
        exact B_83 cs1 u0 u1 u2 h (by omega) (by omega) _ _ _ _ hP hD hG (by omega) hS (lv_sub hl [0, 1, 2] rfl)
      · skip
        replace h := (if_neg c_25).symm.trans h
        refine lv_iload_n hx hb dX9_readSelect_58 rfl (lv_at hl 3 rfl) ?_
        refine lv_if_eq (tgt := 83) hx hb dX9_readSelect_59 (by decide) (fun c_26 => ?_) (fun c_26 => ?_)
        · skip
          replace h := (if_pos c_26).symm.trans h
          refine W_cnt (c2 := kK cs1 - kK cs) (n2 := kM cs1 - kM cs) (by omega) (by omega) ?_
          exact B_83 cs1 u0 u1 u2 h (by omega) (by omega) _ _ _ _ hP hD hG (by omega) hS (lv_sub hl [0, 1, 2] rfl)
        · skip
          replace h := (if_neg c_26).symm.trans h
          refine lv_aload_n hx hb dX9_readSelect_62 rfl (lv_at hl 0 rfl) ?_
          refine lv_aload_n hx hb dX9_readSelect_63 rfl (lv_at hl 2 rfl) ?_
          replace h := ob h; obtain ⟨v_27, hv_27, h⟩ := h
          refine fg_X9_208 hx hb hts hown hK hP hv_27 dX9_readSelect_64 ?_
          replace h := ob h; obtain ⟨i_28, hi_28, h⟩ := h
          subst hi_28
          replace h := ob h; obtain ⟨w_30, hw_30, h⟩ := h
          replace h := ob h; obtain ⟨cs_29, hv_29, h⟩ := h
          obtain ⟨qk_29, qm_29⟩ := k_of (mo_c_X9_readItem F cs1 u0 i_28 cs_29 hv_29)
          refine cbvV (As := [.ref (b + i_28)]) hx hb hml hts hown hK hP hD hS hG hA (by omega) (by omega) hZ (X := 10) (by decide) rfl (ckE_some hw_30) (sc_X9_readItem l dC dI cB cI cJ cZ cS cO b K V fz F cs1 u0 i_28 cs_29 hv_29) (cw_X9_X9_readItem hts (fr := 304) (by show 304 + 1 ≤ n + 1 + 305; omega) (by show 8 + (6 + 11) + 60 * (304) ≤ 60 * (n + 1 + 305); omega)) rfl hl.1 (Nat.le_of_ble_eq_true rfl) ⟨by show kK cs1 - kK cs ≤ kK cs9 - kK cs; omega, by show kM cs1 - kM cs ≤ kM cs9 - kM cs; omega⟩ dX9_readSelect_67 (fun H locs hP hD hG hgz hS => ?_)
          refine lv_aload_n hx hb dX9_readSelect_70 rfl (lv_at hl 0 rfl) ?_
          refine lv_bipush (v := 43) hx hb dX9_readSelect_71 (by decide) ?_
          replace h := ob h; obtain ⟨w_32, hw_32, h⟩ := h
          replace h := ob h; obtain ⟨z_31, hv_31, h⟩ := h
          obtain ⟨qk_31, qm_31⟩ := k_of (mo_c_X9_accept F cs_29 u0 43 z_31.1 z_31.2 hv_31)
          refine cbvI (As := [.int 43]) hx hb hml hts hown hK hP hD hS hG hA (by omega) (by omega) hZ (X := 10) (by decide) rfl (ckE_some hw_32) (sc_X9_accept l dC dI cB cI cJ cZ cS cO b K V fz F cs_29 u0 43 z_31.1 z_31.2 hv_31) (cw_X9_X9_accept hts (fr := 1) (by show 1 + 1 ≤ n + 1 + 305; omega) (by show 8 + (3 + 11) + 60 * (1) ≤ 60 * (n + 1 + 305); omega)) rfl hl.1 (Nat.le_of_ble_eq_true rfl) ⟨by show kK cs1 - kK cs ≤ kK cs9 - kK cs; omega, by show kM cs1 - kM cs ≤ kM cs9 - kM cs; omega⟩ dX9_readSelect_73 (fun H locs hP hD hG hgz hS => ?_)
          refine lv_istore_n (lv' := [(3, .int z_31.2), (0, .ref (b + u0)), (1, rv b u1), (2, .ref (b + u2)), (4, .int u4)]) hx hb dX9_readSelect_76 rfl hl (by decide) rfl (fun ls hl => ?_)
          refine lv_iinc (v := u4 + 1) (lv' := [(4, .int (u4 + 1)), (3, .int z_31.2), (0, .ref (b + u0)), (1, rv b u1), (2, .ref (b + u2))]) hx hb dX9_readSelect_77 hl (k := 4) rfl rfl (by decide) rfl (fun ls hl => ?_)
          refine lv_goto (tgt := 50) hx hb dX9_readSelect_80 (by decide) ?_
          refine W_cnt (c2 := kK z_31.1 - kK cs) (n2 := kM z_31.1 - kM cs) (by omega) (by omega) ?_
          exact ih_50 z_31.1 u0 u1 u2 z_31.2 (u4 + 1) h (by omega) (by omega) _ _ _ _ hP hD hG (by omega) hS (lv_sub hl [2, 3, 4, 1, 0] rfl)
  have B_12 : ∀ (cs1 : CS) (u0 : Nat) (u1 : Option Nat) (y0 : Nat), c_X9_readSelect_b12 F T cs1 u0 u1 y0 = some (cs9, r9) → kK cs ≤ kK cs1 → kM cs ≤ kM cs1 → ∀ (Gh H : Heap) (locs : List Loc) (ls : Array Slot), va_P (dC, dI) vwCl (cW cB cI cJ cZ cS cO b cs1) H → va_D A (cW cB cI cJ cZ cS cO b cs1) → va_S A s.heap Gh [] → Gh.size = b + kK cs1 → va_S A Gh H locs → lv_has ls 5 [(0, .ref (b + u0)), (1, rv b u1)] → W p l e (headSpec (wsOf yX9_readSelect cX9_readSelect 5 (some (.object "StreamQueries$Select"))) ({ frames := n + 1 + 305, cells := kK cs9 - kK cs, slots := kM cs9 - kM cs, locals := 60 * (n + 1 + 305) } : Room)).room s m ([.ref (b + x0)] : List Value).toArray below meth c H locs (kK cs1 - kK cs) (kM cs1 - kM cs) (MQ below (va_Qr (fun (_ : Unit) => True) (fun _ a_ t_ => a_ = b + r9 ∧ va_P (dC, dI) vwCl (cW cB cI cJ cZ cS cO b cs9) t_.heap ∧ va_D A (cW cB cI cJ cZ cS cO b cs9) ∧ b + kK cs9 ≤ t_.heap.size) A) ([.ref (b + x0)] : List Value).toArray s (kK cs9 - kK cs) (kM cs9 - kM cs) A) (F0 m 12 ls [.ref (b + y0)]) := by
    intro cs1 u0 u1 y0 h hmk hmm Gh H locs ls hP hD hG hgz hS hl
    obtain ⟨kb9, mb9⟩ := mo_c_X9_readSelect_b12 F T (fun c_ x_0 z_ r_ h_ => (hT_X9_readQuery c_ x_0 z_ r_ h_).1) (fun c_ x_0 z_ r_ h_ => (hT_X9_readSelect c_ x_0 z_ r_ h_).1) (fun c_ x_0 x_1 z_ h_ => (hT_X9_readSources c_ x_0 x_1 z_ h_).1) (fun c_ x_0 z_ r_ h_ => (hT_X9_readSource c_ x_0 z_ r_ h_).1) cs1 u0 u1 y0 cs9 r9 h
    unfold c_X9_readSelect_b12 at h
    refine lv_astore_n (lv' := [(2, .ref (b + y0)), (0, .ref (b + u0)), (1, rv b u1)]) hx hb dX9_readSelect_12 rfl hl (by decide) (by cases u1 <;> rfl) (fun ls hl => ?_)
    refine lv_aload_n hx hb dX9_readSelect_13 rfl (lv_at hl 1 rfl) ?_
    refine lv_aload_n hx hb dX9_readSelect_14 rfl (lv_at hl 0 rfl) ?_
    replace h := ob h; obtain ⟨cs_33, hv_33, h⟩ := h
    obtain ⟨qk_33, qm_33⟩ := pR_k hv_33
    refine fp_X9_198 (v := (some y0)) hx hb hts hown hK hP hD hS hv_33 dX9_readSelect_15 (fun H locs hP hD hS => ?_)
    refine lv_aload_n hx hb dX9_readSelect_18 rfl (lv_at hl 1 rfl) ?_
    refine lv_iconst (v := 0) hx hb dX9_readSelect_19 (by decide) ?_
    replace h := ob h; obtain ⟨w_35, hw_35, h⟩ := h
    replace h := ob h; obtain ⟨cs_34, hv_34, h⟩ := h
    obtain ⟨qk_34, qm_34⟩ := k_of (mo_c_X9_expect F cs_33 u0 0 cs_34 hv_34)
    refine cbvV (As := [.int 0]) hx hb hml hts hown hK hP hD hS hG hA (by omega) (by omega) hZ (X := 10) (by decide) rfl (ckE_some hw_35) (sc_X9_expect l dC dI cB cI cJ cZ cS cO b K V fz F cs_33 u0 0 cs_34 hv_34) (cw_X9_X9_expect hts (fr := 1) (by show 1 + 1 ≤ n + 1 + 305; omega) (by show 8 + (2 + 11) + 60 * (1) ≤ 60 * (n + 1 + 305); omega)) rfl hl.1 (Nat.le_of_ble_eq_true rfl) ⟨by show kK cs1 - kK cs ≤ kK cs9 - kK cs; omega, by show kM cs1 - kM cs ≤ kM cs9 - kM cs; omega⟩ dX9_readSelect_20 (fun H locs hP hD hG hgz hS => ?_)
    refine lv_aload_n hx hb dX9_readSelect_23 rfl (lv_at hl 0 rfl) ?_
    refine lv_aload_n hx hb dX9_readSelect_24 rfl (lv_at hl 1 rfl) ?_
    replace h := ob h; obtain ⟨w_37, hw_37, h⟩ := h
    replace h := ob h; obtain ⟨v_36, hv_36, h⟩ := h
    refine cbvI (As := []) hx hb hml hts hown hK hP hD hS hG hA (by omega) (by omega) hZ (X := 10) (by decide) rfl (ckE_some hw_37) (sc_X9_here l dC dI cB cI cJ cZ cS cO b K V fz F cs_34 u0 v_36 hv_36) (cw_X9_X9_here hts (fr := 0) (by show 0 + 1 ≤ n + 1 + 305; omega) (by show 8 + (1 + 11) + 60 * (0) ≤ 60 * (n + 1 + 305); omega)) rfl hl.1 (Nat.le_of_ble_eq_true rfl) ⟨by show kK cs1 - kK cs ≤ kK cs9 - kK cs; omega, by show kM cs1 - kM cs ≤ kM cs9 - kM cs; omega⟩ dX9_readSelect_25 (fun H locs hP hD hG hgz hS => ?_)
    replace h := ob h; obtain ⟨cs_38, hv_38, h⟩ := h
    obtain ⟨qk_38, qm_38⟩ := pI_k hv_38
    refine fp_X9_202 hx hb hts hown hK hP hD hS hv_38 dX9_readSelect_28 (fun H locs hP hD hS => ?_)
    refine lv_aload_n hx hb dX9_readSelect_31 rfl (lv_at hl 0 rfl) ?_
    refine lv_aload_n hx hb dX9_readSelect_32 rfl (lv_at hl 1 rfl) ?_
    refine lv_iconst (v := 1) hx hb dX9_readSelect_33 (by decide) ?_
    replace h := ob h; obtain ⟨w_40, hw_40, h⟩ := h
    replace h := ob h; obtain ⟨z_39, hv_39, h⟩ := h
    obtain ⟨qk_39, qm_39⟩ := k_of (mo_c_X9_accept F cs_38 u0 1 z_39.1 z_39.2 hv_39)
    refine cbvI (As := [.int 1]) hx hb hml hts hown hK hP hD hS hG hA (by omega) (by omega) hZ (X := 10) (by decide) rfl (ckE_some hw_40) (sc_X9_accept l dC dI cB cI cJ cZ cS cO b K V fz F cs_38 u0 1 z_39.1 z_39.2 hv_39) (cw_X9_X9_accept hts (fr := 1) (by show 1 + 1 ≤ n + 1 + 305; omega) (by show 8 + (3 + 11) + 60 * (1) ≤ 60 * (n + 1 + 305); omega)) rfl hl.1 (Nat.le_of_ble_eq_true rfl) ⟨by show kK cs1 - kK cs ≤ kK cs9 - kK cs; omega, by show kM cs1 - kM cs ≤ kM cs9 - kM cs; omega⟩ dX9_readSelect_34 (fun H locs hP hD hG hgz hS => ?_)
    replace h := ob h; obtain ⟨w_42, hw_42, h⟩ := h
    replace h := ob h; obtain ⟨cs_41, hv_41, h⟩ := h
    obtain ⟨qk_41, qm_41⟩ := pI_k hv_41
    refine fp_X9_205 hx hb hts hown hK hP hD hS (ckZ_some hw_42) hv_41 dX9_readSelect_37 (fun H locs hP hD hS => ?_)
    refine lv_aload_n hx hb dX9_readSelect_40 rfl (lv_at hl 1 rfl) ?_
    refine lv_iconst (v := 1) hx hb dX9_readSelect_41 (by decide) ?_
    replace h := ob h; obtain ⟨cs_43, hv_43, h⟩ := h
    obtain ⟨qk_43, qm_43⟩ := pI_k hv_43
    refine fp_X9_163 hx hb hts hown hK hP hD hS (Or.inr rfl) hv_43 dX9_readSelect_42 (fun H locs hP hD hS => ?_)
    refine lv_iconst (v := 1) hx hb dX9_readSelect_45 (by decide) ?_
    refine lv_istore_n (lv' := [(3, .int 1), (2, .ref (b + y0)), (0, .ref (b + u0)), (1, rv b u1)]) hx hb dX9_readSelect_46 rfl hl (by decide) rfl (fun ls hl => ?_)
    refine lv_iconst (v := 0) hx hb dX9_readSelect_47 (by decide) ?_
    refine lv_istore (lv' := [(4, .int 0), (3, .int 1), (2, .ref (b + y0)), (0, .ref (b + u0)), (1, rv b u1)]) hx hb dX9_readSelect_48 hl (by decide) rfl (fun ls hl => ?_)
    refine W_cnt (c2 := kK cs_43 - kK cs) (n2 := kM cs_43 - kM cs) (by omega) (by omega) ?_
    exact L_50 F cs_43 u0 u1 y0 1 0 h (by omega) (by omega) _ _ _ _ hP hD hG (by omega) hS (lv_sub hl [3, 4, 2, 1, 0] rfl)
  have B_8 : ∀ (cs1 : CS) (u0 : Nat) (u1 : Option Nat) (y0 : Nat), c_X9_readSelect_b8 F T cs1 u0 u1 y0 = some (cs9, r9) → kK cs ≤ kK cs1 → kM cs ≤ kM cs1 → ∀ (Gh H : Heap) (locs : List Loc) (ls : Array Slot), va_P (dC, dI) vwCl (cW cB cI cJ cZ cS cO b cs1) H → va_D A (cW cB cI cJ cZ cS cO b cs1) → va_S A s.heap Gh [] → Gh.size = b + kK cs1 → va_S A Gh H locs → lv_has ls 5 [(0, .ref (b + u0)), (1, rv b u1)] → W p l e (headSpec (wsOf yX9_readSelect cX9_readSelect 5 (some (.object "StreamQueries$Select"))) ({ frames := n + 1 + 305, cells := kK cs9 - kK cs, slots := kM cs9 - kM cs, locals := 60 * (n + 1 + 305) } : Room)).room s m ([.ref (b + x0)] : List Value).toArray below meth c H locs (kK cs1 - kK cs) (kM cs1 - kM cs) (MQ below (va_Qr (fun (_ : Unit) => True) (fun _ a_ t_ => a_ = b + r9 ∧ va_P (dC, dI) vwCl (cW cB cI cJ cZ cS cO b cs9) t_.heap ∧ va_D A (cW cB cI cJ cZ cS cO b cs9) ∧ b + kK cs9 ≤ t_.heap.size) A) ([.ref (b + x0)] : List Value).toArray s (kK cs9 - kK cs) (kM cs9 - kM cs) A) (F0 m 8 ls [.ref (b + y0)]) := by
    intro cs1 u0 u1 y0 h hmk hmm Gh H locs ls hP hD hG hgz hS hl
    obtain ⟨kb9, mb9⟩ := mo_c_X9_readSelect_b8 F T (fun c_ x_0 z_ r_ h_ => (hT_X9_readQuery c_ x_0 z_ r_ h_).1) (fun c_ x_0 z_ r_ h_ => (hT_X9_readSelect c_ x_0 z_ r_ h_).1) (fun c_ x_0 x_1 z_ h_ => (hT_X9_readSources c_ x_0 x_1 z_ h_).1) (fun c_ x_0 z_ r_ h_ => (hT_X9_readSource c_ x_0 z_ r_ h_).1) cs1 u0 u1 y0 cs9 r9 h
    unfold c_X9_readSelect_b8 at h
    refine lv_dup hx hb dX9_readSelect_8 rfl ?_
    replace h := ob h; obtain ⟨cs_44, hv_44, h⟩ := h
    obtain ⟨qk_44, qm_44⟩ := mo_c_X5_init F cs1 y0 cs_44 hv_44
    obtain ⟨k9_44, m9_44⟩ := mo_c_X9_readSelect_b12 F T (fun c_ x_0 z_ r_ h_ => (hT_X9_readQuery c_ x_0 z_ r_ h_).1) (fun c_ x_0 z_ r_ h_ => (hT_X9_readSelect c_ x_0 z_ r_ h_).1) (fun c_ x_0 x_1 z_ h_ => (hT_X9_readSources c_ x_0 x_1 z_ h_).1) (fun c_ x_0 z_ r_ h_ => (hT_X9_readSource c_ x_0 z_ r_ h_).1) cs_44 u0 u1 y0 cs9 r9 h
    refine camV (As := []) hx hb hml hts hown hK hP hD hS hG hA (by omega) (by omega) hZ (sa_X5_init l dC dI cB cI cJ cZ cS cO b K V fz F cs1 y0 cs_44 hv_44) (cw_X9_X5_init hZ hts (fr := 2) (by show 2 + 1 ≤ n + 1 + 305; omega) (by show 8 + (1 + 11) + 60 * (2) ≤ 60 * (n + 1 + 305); omega)) rfl hl.1 (Nat.le_of_ble_eq_true rfl) ⟨by show kK cs1 - kK cs + (kK cs_44 - kK cs1) ≤ kK cs9 - kK cs; omega, by show kM cs1 - kM cs + (kM cs_44 - kM cs1) ≤ kM cs9 - kM cs; omega⟩ dX9_readSelect_9 (fun H locs hP hD hG hgz hS => ?_)
    refine W_cnt (c2 := kK cs_44 - kK cs) (n2 := kM cs_44 - kM cs) (by omega) (by omega) ?_
    exact B_12 cs_44 u0 u1 y0 h (by omega) (by omega) _ _ _ _ hP hD hG (by omega) hS (lv_sub hl [0, 1] rfl)
  have h := hf
  unfold cb_X9_readSelect at h
  refine W_cnt (c2 := kK cs - kK cs) (n2 := kM cs - kM cs) (by omega) (by omega) ?_
  refine lv_aload_n hx hb dX9_readSelect_0 rfl (lv_at hl 0 rfl) ?_
  replace h := ob h; obtain ⟨v_45, hv_45, h⟩ := h
  refine fg_X9_198 hx hb hts hown hK hP hv_45 dX9_readSelect_1 ?_
  refine lv_astore_nO (lv' := [(1, rv b v_45), (0, .ref (b + x0))]) hx hb dX9_readSelect_4 rfl hl (by decide) rfl (fun ls hl => ?_)
  replace h := ob h; obtain ⟨cs_46, hv_46, h⟩ := h
  obtain ⟨qk_46, qm_46⟩ := nwO_k hv_46
  obtain ⟨k9_46, m9_46⟩ := mo_c_X9_readSelect_b8 F T (fun c_ x_0 z_ r_ h_ => (hT_X9_readQuery c_ x_0 z_ r_ h_).1) (fun c_ x_0 z_ r_ h_ => (hT_X9_readSelect c_ x_0 z_ r_ h_).1) (fun c_ x_0 x_1 z_ h_ => (hT_X9_readSources c_ x_0 x_1 z_ h_).1) (fun c_ x_0 z_ r_ h_ => (hT_X9_readSource c_ x_0 z_ r_ h_).1) cs_46 x0 v_45 (kK cs) cs9 r9 h
  refine new_X9_38 hx hb hts hown hK hP hD hS hG hA (by omega) (by omega) ⟨by show kK cs - kK cs + 1 ≤ kK cs9 - kK cs; omega, by show kM cs - kM cs + 15 ≤ kM cs9 - kM cs; omega⟩ hv_46 dX9_readSelect_5 (fun H locs hP hD hG hgz hS => ?_)
  refine W_cnt (c2 := kK cs_46 - kK cs) (n2 := kM cs_46 - kM cs) (by omega) (by omega) ?_
  exact B_8 cs_46 x0 v_45 (kK cs) h (by omega) (by omega) _ _ _ _ hP hD hG (by omega) hS (lv_sub hl [1, 0] rfl)
set_option maxHeartbeats 4000000 in
set_option maxRecDepth 100000 in
theorem sba_X9_readSources (l : Launch) (dC : Nat → ClassId) (dI : Nat → Nat → Nat) (cB cI cJ cZ cS cO : ClassId) (b : Nat) (K V : Nat → Nat) (fz : Value) (F : Nat) (n : Nat) (T : TC_X9_readQuery) (hT_X9_readQuery : ∀ (cs : CS) (x0 : Nat) (cs9 : CS) (r9 : Nat), T.1 cs x0 = some (cs9, r9) → oaR l dC dI cB cI cJ cZ cS cO b K V fz yX9_readQuery (wsOf yX9_readQuery cX9_readQuery 7 (some (.object "StreamQueries$Query"))) (n + 305) [.ref (b + x0)] cs cs9 r9) (hT_X9_readSelect : ∀ (cs : CS) (x0 : Nat) (cs9 : CS) (r9 : Nat), T.2.1 cs x0 = some (cs9, r9) → oaR l dC dI cB cI cJ cZ cS cO b K V fz yX9_readSelect (wsOf yX9_readSelect cX9_readSelect 5 (some (.object "StreamQueries$Select"))) (n + 305) [.ref (b + x0)] cs cs9 r9) (hT_X9_readSources : ∀ (cs : CS) (x0 : Nat) (x1 : Nat) (cs9 : CS), T.2.2.1 cs x0 x1 = some cs9 → oaV l dC dI cB cI cJ cZ cS cO b K V fz yX9_readSources (wsOf yX9_readSources cX9_readSources 6 none) (n + 305) [.ref (b + x0), .ref (b + x1)] cs cs9) (hT_X9_readSource : ∀ (cs : CS) (x0 : Nat) (cs9 : CS) (r9 : Nat), T.2.2.2 cs x0 = some (cs9, r9) → oaR l dC dI cB cI cJ cZ cS cO b K V fz yX9_readSource (wsOf yX9_readSource cX9_readSource 2 (some (.object "StreamQueries$Source"))) (n + 305) [.ref (b + x0)] cs cs9 r9) (cs : CS) (x0 : Nat) (x1 : Nat) (cs9 : CS) (hf : cb_X9_readSources F T cs x0 x1 = some cs9) : oaV l dC dI cB cI cJ cZ cS cO b K V fz yX9_readSources (wsOf yX9_readSources cX9_readSources 6 none) (n + 1 + 305) [.ref (b + x0), .ref (b + x1)] cs cs9 := by
  obtain ⟨kb9, mb9⟩ := mo_cb_X9_readSources F T (fun c_ x_0 z_ r_ h_ => (hT_X9_readQuery c_ x_0 z_ r_ h_).1) (fun c_ x_0 z_ r_ h_ => (hT_X9_readSelect c_ x_0 z_ r_ h_).1) (fun c_ x_0 x_1 z_ h_ => (hT_X9_readSources c_ x_0 x_1 z_ h_).1) (fun c_ x_0 z_ r_ h_ => (hT_X9_readSource c_ x_0 z_ r_ h_).1) cs x0 x1 cs9 hf
  refine ⟨⟨kb9, mb9⟩, ?_⟩
  refine Met.ofW (cc := cX9_readSources) (maxL := 6) (ret := none) (by decide) rfl ?_
  intro p e s m args below meth c s₁ B hml hv
  obtain ⟨rfl, hsz, hP, hK, hD0, hZ⟩ := hv
  have hx := B.exec
  have hb := B.bytes
  have hr := B.returns
  have hts := atoms_spec (ws := (wsOf yX9_readSources cX9_readSources 6 none)) B.pre
  have hown : s.vm.findClass RX9 = some m.cls := findClass_of_methodNamed B.named
  have hlocks := B.notSynchronized
  have hD := hD0.self (sz := b + kK cs)
  generalize hAe : va_A (cW cB cI cJ cZ cS cO b cs) (b + kK cs) = A at hD hZ ⊢
  have hA : ∀ q : Nat, s.heap.size ≤ q → A q := fun q h => by rw [← hAe]; exact Or.inr (by omega)
  have hS : va_S A s.heap s.heap [] := va_S.rf
  have hG : va_S A s.heap s.heap [] := va_S.rf
  have hgz : s.heap.size = b + kK cs := hsz
  have hl := lv_entry ([.ref (b + x0), .ref (b + x1)]) (n := 6) (Nat.le_of_ble_eq_true rfl)
  rw [lg_entry_eq]
  generalize (lg_sl ([.ref (b + x0), .ref (b + x1)]) ++ List.replicate (6 - (lg_sl ([.ref (b + x0), .ref (b + x1)])).length) Slot.unset).toArray = ls at hl ⊢
  have hl : lv_has ls 6 [(0, .ref (b + x0)), (1, .ref (b + x1))] := hl
  have B_100 : ∀ (cs1 : CS) , c_X9_readSources_b100 F T cs1 = some cs9 → kK cs ≤ kK cs1 → kM cs ≤ kM cs1 → ∀ (Gh H : Heap) (locs : List Loc) (ls : Array Slot), va_P (dC, dI) vwCl (cW cB cI cJ cZ cS cO b cs1) H → va_D A (cW cB cI cJ cZ cS cO b cs1) → va_S A s.heap Gh [] → Gh.size = b + kK cs1 → va_S A Gh H locs → lv_has ls 6 [] → W p l e (headSpec (wsOf yX9_readSources cX9_readSources 6 none) ({ frames := n + 1 + 305, cells := kK cs9 - kK cs, slots := kM cs9 - kM cs, locals := 60 * (n + 1 + 305) } : Room)).room s m ([.ref (b + x0), .ref (b + x1)] : List Value).toArray below meth c H locs (kK cs1 - kK cs) (kM cs1 - kM cs) (MQ below (va_Qv (fun (_ : Unit) => True) (fun _ t_ => va_P (dC, dI) vwCl (cW cB cI cJ cZ cS cO b cs9) t_.heap ∧ va_D A (cW cB cI cJ cZ cS cO b cs9) ∧ b + kK cs9 ≤ t_.heap.size) A) ([.ref (b + x0), .ref (b + x1)] : List Value).toArray s (kK cs9 - kK cs) (kM cs9 - kM cs) A) (F0 m 100 ls []) := by
    intro cs1  h hmk hmm Gh H locs ls hP hD hG hgz hS hl
    obtain ⟨kb9, mb9⟩ := mo_c_X9_readSources_b100 F T (fun c_ x_0 z_ r_ h_ => (hT_X9_readQuery c_ x_0 z_ r_ h_).1) (fun c_ x_0 z_ r_ h_ => (hT_X9_readSelect c_ x_0 z_ r_ h_).1) (fun c_ x_0 x_1 z_ h_ => (hT_X9_readSources c_ x_0 x_1 z_ h_).1) (fun c_ x_0 z_ r_ h_ => (hT_X9_readSource c_ x_0 z_ r_ h_).1) cs1  cs9 h
    unfold c_X9_readSources_b100 at h
    have e1 := Option.some.inj h
    rw [e1] at hP hD
    have e3 := congrArg kK e1
    have e4 := congrArg kM e1
    refine W_cnt (c2 := kK cs9 - kK cs) (n2 := kM cs9 - kM cs) (by omega) (by omega) ?_
    exact W.vret hx hb hr (fun t_ ht hW => ⟨⟨(), rfl, trivial, by rw [ht]; exact hP, hD, by rw [ht]; have := hS.1; omega⟩, (hG.comp hS).F ht⟩) (hG.comp hS).2.2 dX9_readSources_100
  have L_10 : ∀ (lf_10 : Nat), ∀ (cs1 : CS) (u0 : Nat) (u1 : Nat) (u2 : Int32), c_X9_readSources_L10 F T lf_10 cs1 u0 u1 u2 = some cs9 → kK cs ≤ kK cs1 → kM cs ≤ kM cs1 → ∀ (Gh H : Heap) (locs : List Loc) (ls : Array Slot), va_P (dC, dI) vwCl (cW cB cI cJ cZ cS cO b cs1) H → va_D A (cW cB cI cJ cZ cS cO b cs1) → va_S A s.heap Gh [] → Gh.size = b + kK cs1 → va_S A Gh H locs → lv_has ls 6 [(0, .ref (b + u0)), (1, .ref (b + u1)), (2, .int u2)] → W p l e (headSpec (wsOf yX9_readSources cX9_readSources 6 none) ({ frames := n + 1 + 305, cells := kK cs9 - kK cs, slots := kM cs9 - kM cs, locals := 60 * (n + 1 + 305) } : Room)).room s m ([.ref (b + x0), .ref (b + x1)] : List Value).toArray below meth c H locs (kK cs1 - kK cs) (kM cs1 - kM cs) (MQ below (va_Qv (fun (_ : Unit) => True) (fun _ t_ => va_P (dC, dI) vwCl (cW cB cI cJ cZ cS cO b cs9) t_.heap ∧ va_D A (cW cB cI cJ cZ cS cO b cs9) ∧ b + kK cs9 ≤ t_.heap.size) A) ([.ref (b + x0), .ref (b + x1)] : List Value).toArray s (kK cs9 - kK cs) (kM cs9 - kM cs) A) (F0 m 10 ls []) := by
    intro lf_10
    induction lf_10 with
    | zero => intro cs1 u0 u1 u2 h; cases (show (none : Option CS) = _ from h)
    | succ lf_10 ih_10 =>
      have B_54 : ∀ (cs1 : CS) (u0 : Nat) (u1 : Nat) (u2 : Int32) (u3 : Int32) (u4 : Int32) (y0 : Nat), c_X9_readSources_b54 F T (c_X9_readSources_L10 F T lf_10) cs1 u0 u1 u2 u3 u4 y0 = some cs9 → kK cs ≤ kK cs1 → kM cs ≤ kM cs1 → ∀ (Gh H : Heap) (locs : List Loc) (ls : Array Slot), va_P (dC, dI) vwCl (cW cB cI cJ cZ cS cO b cs1) H → va_D A (cW cB cI cJ cZ cS cO b cs1) → va_S A s.heap Gh [] → Gh.size = b + kK cs1 → va_S A Gh H locs → lv_has ls 6 [(0, .ref (b + u0)), (1, .ref (b + u1)), (2, .int u2), (3, .int u3), (4, .int u4)] → W p l e (headSpec (wsOf yX9_readSources cX9_readSources 6 none) ({ frames := n + 1 + 305, cells := kK cs9 - kK cs, slots := kM cs9 - kM cs, locals := 60 * (n + 1 + 305) } : Room)).room s m ([.ref (b + x0), .ref (b + x1)] : List Value).toArray below meth c H locs (kK cs1 - kK cs) (kM cs1 - kM cs) (MQ below (va_Qv (fun (_ : Unit) => True) (fun _ t_ => va_P (dC, dI) vwCl (cW cB cI cJ cZ cS cO b cs9) t_.heap ∧ va_D A (cW cB cI cJ cZ cS cO b cs9) ∧ b + kK cs9 ≤ t_.heap.size) A) ([.ref (b + x0), .ref (b + x1)] : List Value).toArray s (kK cs9 - kK cs) (kM cs9 - kM cs) A) (F0 m 54 ls [.ref (b + y0)]) := by
        intro cs1 u0 u1 u2 u3 u4 y0 h hmk hmm Gh H locs ls hP hD hG hgz hS hl
        obtain ⟨kb9, mb9⟩ := mo_c_X9_readSources_b54 F T (fun c_ x_0 z_ r_ h_ => (hT_X9_readQuery c_ x_0 z_ r_ h_).1) (fun c_ x_0 z_ r_ h_ => (hT_X9_readSelect c_ x_0 z_ r_ h_).1) (fun c_ x_0 x_1 z_ h_ => (hT_X9_readSources c_ x_0 x_1 z_ h_).1) (fun c_ x_0 z_ r_ h_ => (hT_X9_readSource c_ x_0 z_ r_ h_).1) (c_X9_readSources_L10 F T lf_10) (mo_c_X9_readSources_L10 F T (fun c_ x_0 z_ r_ h_ => (hT_X9_readQuery c_ x_0 z_ r_ h_).1) (fun c_ x_0 z_ r_ h_ => (hT_X9_readSelect c_ x_0 z_ r_ h_).1) (fun c_ x_0 x_1 z_ h_ => (hT_X9_readSources c_ x_0 x_1 z_ h_).1) (fun c_ x_0 z_ r_ h_ => (hT_X9_readSource c_ x_0 z_ r_ h_).1) lf_10) cs1 u0 u1 u2 u3 u4 y0 cs9 h
        unfold c_X9_readSources_b54 at h
        refine lv_astore (lv' := [(5, .ref (b + y0)), (0, .ref (b + u0)), (1, .ref (b + u1)), (2, .int u2), (3, .int u3), (4, .int u4)]) hx hb dX9_readSources_54 hl (by decide) rfl (fun ls hl => ?_)
        refine lv_aload hx hb dX9_readSources_56 (lv_at hl 0 rfl) ?_
        refine lv_iload_n hx hb dX9_readSources_58 rfl (lv_at hl 4 rfl) ?_
        replace h := ob h; obtain ⟨w_2, hw_2, h⟩ := h
        replace h := ob h; obtain ⟨cs_1, hv_1, h⟩ := h
        obtain ⟨qk_1, qm_1⟩ := pI_k hv_1
        refine fp_X9_249 hx hb hts hown hK hP hD hS (ckZ_some hw_2) hv_1 dX9_readSources_59 (fun H locs hP hD hS => ?_)
        refine lv_aload hx hb dX9_readSources_62 (lv_at hl 0 rfl) ?_
        refine lv_iload hx hb dX9_readSources_64 (lv_at hl 5 rfl) ?_
        replace h := ob h; obtain ⟨cs_3, hv_3, h⟩ := h
        obtain ⟨qk_3, qm_3⟩ := pI_k hv_3
        refine fp_X9_252 hx hb hts hown hK hP hD hS hv_3 dX9_readSources_66 (fun H locs hP hD hS => ?_)
        refine lv_aload_n hx hb dX9_readSources_69 rfl (lv_at hl 1 rfl) ?_
        refine lv_iconst (v := 5) hx hb dX9_readSources_70 (by decide) ?_
        replace h := ob h; obtain ⟨w_5, hw_5, h⟩ := h
        replace h := ob h; obtain ⟨cs_4, hv_4, h⟩ := h
        obtain ⟨qk_4, qm_4⟩ := k_of (mo_c_X9_expect F cs_3 u0 5 cs_4 hv_4)
        refine cbvV (As := [.int 5]) hx hb hml hts hown hK hP hD hS hG hA (by omega) (by omega) hZ (X := 10) (by decide) rfl (ckE_some hw_5) (sc_X9_expect l dC dI cB cI cJ cZ cS cO b K V fz F cs_3 u0 5 cs_4 hv_4) (cw_X9_X9_expect hts (fr := 1) (by show 1 + 1 ≤ n + 1 + 305; omega) (by show 8 + (2 + 11) + 60 * (1) ≤ 60 * (n + 1 + 305); omega)) rfl hl.1 (Nat.le_of_ble_eq_true rfl) ⟨by show kK cs1 - kK cs ≤ kK cs9 - kK cs; omega, by show kM cs1 - kM cs ≤ kM cs9 - kM cs; omega⟩ dX9_readSources_71 (fun H locs hP hD hG hgz hS => ?_)
        refine lv_aload_n hx hb dX9_readSources_74 rfl (lv_at hl 1 rfl) ?_
        refine lv_iconst (v := 0) hx hb dX9_readSources_75 (by decide) ?_
        replace h := ob h; obtain ⟨cs_6, hv_6, h⟩ := h
        obtain ⟨qk_6, qm_6⟩ := pI_k hv_6
        refine fp_X9_163 hx hb hts hown hK hP hD hS (Or.inl rfl) hv_6 dX9_readSources_76 (fun H locs hP hD hS => ?_)
        refine lv_aload hx hb dX9_readSources_79 (lv_at hl 0 rfl) ?_
        refine lv_aload_n hx hb dX9_readSources_81 rfl (lv_at hl 1 rfl) ?_
        replace h := ob h; obtain ⟨w_8, hw_8, h⟩ := h
        replace h := ob h; obtain ⟨z_7, hv_7, h⟩ := h
        obtain ⟨qk_7, qm_7⟩ := k_of (mo_c_X9_readExpr F 300 cs_6 u0 z_7.1 z_7.2 hv_7)
        refine cbvI (As := []) hx hb hml hts hown hK hP hD hS hG hA (by omega) (by omega) hZ (X := 10) (by decide) rfl (ckE_some hw_8) (sc_X9_readExpr l dC dI cB cI cJ cZ cS cO b K V fz F 300 cs_6 u0 z_7.1 z_7.2 hv_7) (cw_X9_X9_readExpr hts (fr := 303) (by show 303 + 1 ≤ n + 1 + 305; omega) (by show 8 + (5 + 11) + 60 * (303) ≤ 60 * (n + 1 + 305); omega)) rfl hl.1 (Nat.le_of_ble_eq_true rfl) ⟨by show kK cs1 - kK cs ≤ kK cs9 - kK cs; omega, by show kM cs1 - kM cs ≤ kM cs9 - kM cs; omega⟩ dX9_readSources_82 (fun H locs hP hD hG hgz hS => ?_)
        replace h := ob h; obtain ⟨cs_9, hv_9, h⟩ := h
        obtain ⟨qk_9, qm_9⟩ := pI_k hv_9
        refine fp_X9_255 hx hb hts hown hK hP hD hS hv_9 dX9_readSources_85 (fun H locs hP hD hS => ?_)
        refine lv_aload_n hx hb dX9_readSources_88 rfl (lv_at hl 2 rfl) ?_
        refine lv_aload hx hb dX9_readSources_89 (lv_at hl 0 rfl) ?_
        replace h := ob h; obtain ⟨cs_10, hv_10, h⟩ := h
        obtain ⟨qk_10, qm_10⟩ := k_of (mo_c_X9_addSource F cs_9 u1 y0 cs_10 hv_10)
        refine cbsV (As := [.ref (b + u1), .ref (b + y0)]) hx hb hml hts hown hK hP hD hS hG hA (by omega) (by omega) hZ (sc_X9_addSource l dC dI cB cI cJ cZ cS cO b K V fz F cs_9 u1 y0 cs_10 hv_10) (cw_X9_X9_addSource hts (fr := 0) (by show 0 + 1 ≤ n + 1 + 305; omega) (by show 8 + (2 + 11) + 60 * (0) ≤ 60 * (n + 1 + 305); omega)) rfl hl.1 (Nat.le_of_ble_eq_true rfl) ⟨by show kK cs1 - kK cs ≤ kK cs9 - kK cs; omega, by show kM cs1 - kM cs ≤ kM cs9 - kM cs; omega⟩ dX9_readSources_91 (fun H locs hP hD hG hgz hS => ?_)
        refine lv_iinc (v := u2 + 1) (lv' := [(2, .int (u2 + 1)), (5, .ref (b + y0)), (0, .ref (b + u0)), (1, .ref (b + u1)), (3, .int u3), (4, .int u4)]) hx hb dX9_readSources_94 hl (k := 3) rfl rfl (by decide) rfl (fun ls hl => ?_)
        refine lv_goto (tgt := 10) hx hb dX9_readSources_97 (by decide) ?_
        refine W_cnt (c2 := kK cs_10 - kK cs) (n2 := kM cs_10 - kM cs) (by omega) (by omega) ?_
        exact ih_10 cs_10 u0 u1 (u2 + 1) h (by omega) (by omega) _ _ _ _ hP hD hG (by omega) hS (lv_sub hl [2, 3, 0] rfl)
      have B_33 : ∀ (cs1 : CS) (u0 : Nat) (u1 : Nat) (u2 : Int32), c_X9_readSources_b33 F T (c_X9_readSources_L10 F T lf_10) cs1 u0 u1 u2 = some cs9 → kK cs ≤ kK cs1 → kM cs ≤ kM cs1 → ∀ (Gh H : Heap) (locs : List Loc) (ls : Array Slot), va_P (dC, dI) vwCl (cW cB cI cJ cZ cS cO b cs1) H → va_D A (cW cB cI cJ cZ cS cO b cs1) → va_S A s.heap Gh [] → Gh.size = b + kK cs1 → va_S A Gh H locs → lv_has ls 6 [(0, .ref (b + u0)), (1, .ref (b + u1)), (2, .int u2)] → W p l e (headSpec (wsOf yX9_readSources cX9_readSources 6 none) ({ frames := n + 1 + 305, cells := kK cs9 - kK cs, slots := kM cs9 - kM cs, locals := 60 * (n + 1 + 305) } : Room)).room s m ([.ref (b + x0), .ref (b + x1)] : List Value).toArray below meth c H locs (kK cs1 - kK cs) (kM cs1 - kM cs) (MQ below (va_Qv (fun (_ : Unit) => True) (fun _ t_ => va_P (dC, dI) vwCl (cW cB cI cJ cZ cS cO b cs9) t_.heap ∧ va_D A (cW cB cI cJ cZ cS cO b cs9) ∧ b + kK cs9 ≤ t_.heap.size) A) ([.ref (b + x0), .ref (b + x1)] : List Value).toArray s (kK cs9 - kK cs) (kM cs9 - kM cs) A) (F0 m 33 ls []) := by
        intro cs1 u0 u1 u2 h hmk hmm Gh H locs ls hP hD hG hgz hS hl
        obtain ⟨kb9, mb9⟩ := mo_c_X9_readSources_b33 F T (fun c_ x_0 z_ r_ h_ => (hT_X9_readQuery c_ x_0 z_ r_ h_).1) (fun c_ x_0 z_ r_ h_ => (hT_X9_readSelect c_ x_0 z_ r_ h_).1) (fun c_ x_0 x_1 z_ h_ => (hT_X9_readSources c_ x_0 x_1 z_ h_).1) (fun c_ x_0 z_ r_ h_ => (hT_X9_readSource c_ x_0 z_ r_ h_).1) (c_X9_readSources_L10 F T lf_10) (mo_c_X9_readSources_L10 F T (fun c_ x_0 z_ r_ h_ => (hT_X9_readQuery c_ x_0 z_ r_ h_).1) (fun c_ x_0 z_ r_ h_ => (hT_X9_readSelect c_ x_0 z_ r_ h_).1) (fun c_ x_0 x_1 z_ h_ => (hT_X9_readSources c_ x_0 x_1 z_ h_).1) (fun c_ x_0 z_ r_ h_ => (hT_X9_readSource c_ x_0 z_ r_ h_).1) lf_10) cs1 u0 u1 u2 cs9 h
        unfold c_X9_readSources_b33 at h
        refine lv_aload_n hx hb dX9_readSources_33 rfl (lv_at hl 0 rfl) ?_
        refine lv_iconst (v := 4) hx hb dX9_readSources_34 (by decide) ?_
        replace h := ob h; obtain ⟨w_12, hw_12, h⟩ := h
        replace h := ob h; obtain ⟨z_11, hv_11, h⟩ := h
        obtain ⟨qk_11, qm_11⟩ := k_of (mo_c_X9_accept F cs1 u0 4 z_11.1 z_11.2 hv_11)
        refine cbvI (As := [.int 4]) hx hb hml hts hown hK hP hD hS hG hA (by omega) (by omega) hZ (X := 10) (by decide) rfl (ckE_some hw_12) (sc_X9_accept l dC dI cB cI cJ cZ cS cO b K V fz F cs1 u0 4 z_11.1 z_11.2 hv_11) (cw_X9_X9_accept hts (fr := 1) (by show 1 + 1 ≤ n + 1 + 305; omega) (by show 8 + (3 + 11) + 60 * (1) ≤ 60 * (n + 1 + 305); omega)) rfl hl.1 (Nat.le_of_ble_eq_true rfl) ⟨by show kK cs1 - kK cs ≤ kK cs9 - kK cs; omega, by show kM cs1 - kM cs ≤ kM cs9 - kM cs; omega⟩ dX9_readSources_35 (fun H locs hP hD hG hgz hS => ?_)
        refine lv_istore_n (lv' := [(3, .int z_11.2), (0, .ref (b + u0)), (1, .ref (b + u1)), (2, .int u2)]) hx hb dX9_readSources_38 rfl hl (by decide) rfl (fun ls hl => ?_)
        refine lv_aload_n hx hb dX9_readSources_39 rfl (lv_at hl 1 rfl) ?_
        replace h := ob h; obtain ⟨w_14, hw_14, h⟩ := h
        replace h := ob h; obtain ⟨v_13, hv_13, h⟩ := h
        refine cbvI (As := []) hx hb hml hts hown hK hP hD hS hG hA (by omega) (by omega) hZ (X := 10) (by decide) rfl (ckE_some hw_14) (sc_X9_here l dC dI cB cI cJ cZ cS cO b K V fz F z_11.1 u0 v_13 hv_13) (cw_X9_X9_here hts (fr := 0) (by show 0 + 1 ≤ n + 1 + 305; omega) (by show 8 + (1 + 11) + 60 * (0) ≤ 60 * (n + 1 + 305); omega)) rfl hl.1 (Nat.le_of_ble_eq_true rfl) ⟨by show kK cs1 - kK cs ≤ kK cs9 - kK cs; omega, by show kM cs1 - kM cs ≤ kM cs9 - kM cs; omega⟩ dX9_readSources_40 (fun H locs hP hD hG hgz hS => ?_)
        refine lv_istore (lv' := [(4, .int v_13), (3, .int z_11.2), (0, .ref (b + u0)), (1, .ref (b + u1)), (2, .int u2)]) hx hb dX9_readSources_43 hl (by decide) rfl (fun ls hl => ?_)
        refine lv_aload_n hx hb dX9_readSources_45 rfl (lv_at hl 2 rfl) ?_
        refine lv_iconst (v := 3) hx hb dX9_readSources_46 (by decide) ?_
        replace h := ob h; obtain ⟨w_16, hw_16, h⟩ := h
        replace h := ob h; obtain ⟨cs_15, hv_15, h⟩ := h
        obtain ⟨qk_15, qm_15⟩ := k_of (mo_c_X9_expect F z_11.1 u0 3 cs_15 hv_15)
        refine cbvV (As := [.int 3]) hx hb hml hts hown hK hP hD hS hG hA (by omega) (by omega) hZ (X := 10) (by decide) rfl (ckE_some hw_16) (sc_X9_expect l dC dI cB cI cJ cZ cS cO b K V fz F z_11.1 u0 3 cs_15 hv_15) (cw_X9_X9_expect hts (fr := 1) (by show 1 + 1 ≤ n + 1 + 305; omega) (by show 8 + (2 + 11) + 60 * (1) ≤ 60 * (n + 1 + 305); omega)) rfl hl.1 (Nat.le_of_ble_eq_true rfl) ⟨by show kK cs1 - kK cs ≤ kK cs9 - kK cs; omega, by show kM cs1 - kM cs ≤ kM cs9 - kM cs; omega⟩ dX9_readSources_47 (fun H locs hP hD hG hgz hS => ?_)
        refine lv_aload_n hx hb dX9_readSources_50 rfl (lv_at hl 2 rfl) ?_
        replace h := ob h; obtain ⟨w_18, hw_18, h⟩ := h
        replace h := ob h; obtain ⟨z_17, hv_17, h⟩ := h
        obtain ⟨qk_17, qm_17⟩ := (hT_X9_readSource cs_15 u0 z_17.1 z_17.2 hv_17).1
        obtain ⟨k9_17, m9_17⟩ := mo_c_X9_readSources_b54 F T (fun c_ x_0 z_ r_ h_ => (hT_X9_readQuery c_ x_0 z_ r_ h_).1) (fun c_ x_0 z_ r_ h_ => (hT_X9_readSelect c_ x_0 z_ r_ h_).1) (fun c_ x_0 x_1 z_ h_ => (hT_X9_readSources c_ x_0 x_1 z_ h_).1) (fun c_ x_0 z_ r_ h_ => (hT_X9_readSource c_ x_0 z_ r_ h_).1) (c_X9_readSources_L10 F T lf_10) (mo_c_X9_readSources_L10 F T (fun c_ x_0 z_ r_ h_ => (hT_X9_readQuery c_ x_0 z_ r_ h_).1) (fun c_ x_0 z_ r_ h_ => (hT_X9_readSelect c_ x_0 z_ r_ h_).1) (fun c_ x_0 x_1 z_ h_ => (hT_X9_readSources c_ x_0 x_1 z_ h_).1) (fun c_ x_0 z_ r_ h_ => (hT_X9_readSource c_ x_0 z_ r_ h_).1) lf_10) z_17.1 u0 u1 u2 z_11.2 v_13 z_17.2 cs9 h
        refine cavR (As := []) hx hb hml hts hown hK hP hD hS hG hA (by omega) (by omega) hZ (X := 10) (by decide) rfl (ckE_some hw_18) (hT_X9_readSource cs_15 u0 z_17.1 z_17.2 hv_17) (cw_X9_X9_readSource hts (fr := n + 305) (by show n + 305 + 1 ≤ n + 1 + 305; omega) (by show 8 + (2 + 11) + 60 * (n + 305) ≤ 60 * (n + 1 + 305); omega)) rfl hl.1 (Nat.le_of_ble_eq_true rfl) ⟨by show kK cs1 - kK cs + (kK z_17.1 - kK cs_15) ≤ kK cs9 - kK cs; omega, by show kM cs1 - kM cs + (kM z_17.1 - kM cs_15) ≤ kM cs9 - kM cs; omega⟩ dX9_readSources_51 (fun H locs hP hD hG hgz hS => ?_)
        refine W_cnt (c2 := kK z_17.1 - kK cs) (n2 := kM z_17.1 - kM cs) (by omega) (by omega) ?_
        exact B_54 z_17.1 u0 u1 u2 z_11.2 v_13 z_17.2 h (by omega) (by omega) _ _ _ _ hP hD hG (by omega) hS (lv_sub hl [2, 3, 4, 1, 0] rfl)
      intro cs1 u0 u1 u2 h hmk hmm Gh H locs ls hP hD hG hgz hS hl
      obtain ⟨kb9, mb9⟩ := mo_c_X9_readSources_L10 F T (fun c_ x_0 z_ r_ h_ => (hT_X9_readQuery c_ x_0 z_ r_ h_).1) (fun c_ x_0 z_ r_ h_ => (hT_X9_readSelect c_ x_0 z_ r_ h_).1) (fun c_ x_0 x_1 z_ h_ => (hT_X9_readSources c_ x_0 x_1 z_ h_).1) (fun c_ x_0 z_ r_ h_ => (hT_X9_readSource c_ x_0 z_ r_ h_).1) (lf_10 + 1) cs1 u0 u1 u2 cs9 h
      rw [c_X9_readSources_L10] at h
      refine lv_iload_n hx hb dX9_readSources_10 rfl (lv_at hl 2 rfl) ?_
      refine lv_sipush (v := 2000) hx hb dX9_readSources_11 (by decide) ?_
      refine lv_icmp_ge (tgt := 100) hx hb dX9_readSources_14 (by decide) (fun c_19 => ?_) (fun c_19 => ?_)
      · skip
        replace h := (if_pos c_19).symm.trans h
        refine W_cnt (c2 := kK cs1 - kK cs) (n2 := kM cs1 - kM cs) (by omega) (by omega) ?_
        exact B_100 cs1 h (by omega) (by omega) _ _ _ _ hP hD hG (by omega) hS (lv_sub hl [] rfl)
      · skip
        replace h := (if_neg c_19).symm.trans h
        refine lv_aload_n hx hb dX9_readSources_17 rfl (lv_at hl 0 rfl) ?_
        replace h := ob h; obtain ⟨w_21, hw_21, h⟩ := h
        replace h := ob h; obtain ⟨v_20, hv_20, h⟩ := h
        refine cbvI (As := []) hx hb hml hts hown hK hP hD hS hG hA (by omega) (by omega) hZ (X := 10) (by decide) rfl (ckE_some hw_21) (sc_X9_kind l dC dI cB cI cJ cZ cS cO b K V fz F cs1 u0 v_20 hv_20) (cw_X9_X9_kind hts (fr := 0) (by show 0 + 1 ≤ n + 1 + 305; omega) (by show 8 + (1 + 11) + 60 * (0) ≤ 60 * (n + 1 + 305); omega)) rfl hl.1 (Nat.le_of_ble_eq_true rfl) ⟨by show kK cs1 - kK cs ≤ kK cs9 - kK cs; omega, by show kM cs1 - kM cs ≤ kM cs9 - kM cs; omega⟩ dX9_readSources_18 (fun H locs hP hD hG hgz hS => ?_)
        refine lv_iconst (v := 3) hx hb dX9_readSources_21 (by decide) ?_
        refine lv_icmp_eq (tgt := 33) hx hb dX9_readSources_22 (by decide) (fun c_22 => ?_) (fun c_22 => ?_)
        · skip
          replace h := (if_pos c_22).symm.trans h
          refine W_cnt (c2 := kK cs1 - kK cs) (n2 := kM cs1 - kM cs) (by omega) (by omega) ?_
          exact B_33 cs1 u0 u1 u2 h (by omega) (by omega) _ _ _ _ hP hD hG (by omega) hS (lv_sub hl [0, 1, 2] rfl)
        · skip
          replace h := (if_neg c_22).symm.trans h
          refine lv_aload_n hx hb dX9_readSources_25 rfl (lv_at hl 0 rfl) ?_
          replace h := ob h; obtain ⟨w_24, hw_24, h⟩ := h
          replace h := ob h; obtain ⟨v_23, hv_23, h⟩ := h
          refine cbvI (As := []) hx hb hml hts hown hK hP hD hS hG hA (by omega) (by omega) hZ (X := 10) (by decide) rfl (ckE_some hw_24) (sc_X9_kind l dC dI cB cI cJ cZ cS cO b K V fz F cs1 u0 v_23 hv_23) (cw_X9_X9_kind hts (fr := 0) (by show 0 + 1 ≤ n + 1 + 305; omega) (by show 8 + (1 + 11) + 60 * (0) ≤ 60 * (n + 1 + 305); omega)) rfl hl.1 (Nat.le_of_ble_eq_true rfl) ⟨by show kK cs1 - kK cs ≤ kK cs9 - kK cs; omega, by show kM cs1 - kM cs ≤ kM cs9 - kM cs; omega⟩ dX9_readSources_26 (fun H locs hP hD hG hgz hS => ?_)
          refine lv_iconst (v := 4) hx hb dX9_readSources_29 (by decide) ?_
          refine lv_icmp_ne (tgt := 100) hx hb dX9_readSources_30 (by decide) (fun c_25 => ?_) (fun c_25 => ?_)
          · skip
            replace h := (if_neg c_25).symm.trans h
            refine W_cnt (c2 := kK cs1 - kK cs) (n2 := kM cs1 - kM cs) (by omega) (by omega) ?_
            exact B_100 cs1 h (by omega) (by omega) _ _ _ _ hP hD hG (by omega) hS (lv_sub hl [] rfl)
          · skip
            replace h := (if_pos c_25).symm.trans h
            refine W_cnt (c2 := kK cs1 - kK cs) (n2 := kM cs1 - kM cs) (by omega) (by omega) ?_
            exact B_33 cs1 u0 u1 u2 h (by omega) (by omega) _ _ _ _ hP hD hG (by omega) hS (lv_sub hl [0, 1, 2] rfl)
  have B_5 : ∀ (cs1 : CS) (u0 : Nat) (u1 : Nat) (y0 : Nat) (y1 : Nat), c_X9_readSources_b5 F T cs1 u0 u1 y0 y1 = some cs9 → kK cs ≤ kK cs1 → kM cs ≤ kM cs1 → ∀ (Gh H : Heap) (locs : List Loc) (ls : Array Slot), va_P (dC, dI) vwCl (cW cB cI cJ cZ cS cO b cs1) H → va_D A (cW cB cI cJ cZ cS cO b cs1) → va_S A s.heap Gh [] → Gh.size = b + kK cs1 → va_S A Gh H locs → lv_has ls 6 [(0, .ref (b + u0)), (1, .ref (b + u1))] → W p l e (headSpec (wsOf yX9_readSources cX9_readSources 6 none) ({ frames := n + 1 + 305, cells := kK cs9 - kK cs, slots := kM cs9 - kM cs, locals := 60 * (n + 1 + 305) } : Room)).room s m ([.ref (b + x0), .ref (b + x1)] : List Value).toArray below meth c H locs (kK cs1 - kK cs) (kM cs1 - kM cs) (MQ below (va_Qv (fun (_ : Unit) => True) (fun _ t_ => va_P (dC, dI) vwCl (cW cB cI cJ cZ cS cO b cs9) t_.heap ∧ va_D A (cW cB cI cJ cZ cS cO b cs9) ∧ b + kK cs9 ≤ t_.heap.size) A) ([.ref (b + x0), .ref (b + x1)] : List Value).toArray s (kK cs9 - kK cs) (kM cs9 - kM cs) A) (F0 m 5 ls [.ref (b + y0), .ref (b + y1)]) := by
    intro cs1 u0 u1 y0 y1 h hmk hmm Gh H locs ls hP hD hG hgz hS hl
    obtain ⟨kb9, mb9⟩ := mo_c_X9_readSources_b5 F T (fun c_ x_0 z_ r_ h_ => (hT_X9_readQuery c_ x_0 z_ r_ h_).1) (fun c_ x_0 z_ r_ h_ => (hT_X9_readSelect c_ x_0 z_ r_ h_).1) (fun c_ x_0 x_1 z_ h_ => (hT_X9_readSources c_ x_0 x_1 z_ h_).1) (fun c_ x_0 z_ r_ h_ => (hT_X9_readSource c_ x_0 z_ r_ h_).1) cs1 u0 u1 y0 y1 cs9 h
    unfold c_X9_readSources_b5 at h
    replace h := ob h; obtain ⟨cs_26, hv_26, h⟩ := h
    obtain ⟨qk_26, qm_26⟩ := k_of (mo_c_X9_addSource F cs1 y1 y0 cs_26 hv_26)
    refine cbsV (As := [.ref (b + y1), .ref (b + y0)]) hx hb hml hts hown hK hP hD hS hG hA (by omega) (by omega) hZ (sc_X9_addSource l dC dI cB cI cJ cZ cS cO b K V fz F cs1 y1 y0 cs_26 hv_26) (cw_X9_X9_addSource hts (fr := 0) (by show 0 + 1 ≤ n + 1 + 305; omega) (by show 8 + (2 + 11) + 60 * (0) ≤ 60 * (n + 1 + 305); omega)) rfl hl.1 (Nat.le_of_ble_eq_true rfl) ⟨by show kK cs1 - kK cs ≤ kK cs9 - kK cs; omega, by show kM cs1 - kM cs ≤ kM cs9 - kM cs; omega⟩ dX9_readSources_5 (fun H locs hP hD hG hgz hS => ?_)
    refine lv_iconst (v := 0) hx hb dX9_readSources_8 (by decide) ?_
    refine lv_istore_n (lv' := [(2, .int 0), (0, .ref (b + u0)), (1, .ref (b + u1))]) hx hb dX9_readSources_9 rfl hl (by decide) rfl (fun ls hl => ?_)
    refine W_cnt (c2 := kK cs_26 - kK cs) (n2 := kM cs_26 - kM cs) (by omega) (by omega) ?_
    exact L_10 F cs_26 u0 u1 0 h (by omega) (by omega) _ _ _ _ hP hD hG (by omega) hS (lv_sub hl [1, 2, 0] rfl)
  have h := hf
  unfold cb_X9_readSources at h
  refine W_cnt (c2 := kK cs - kK cs) (n2 := kM cs - kM cs) (by omega) (by omega) ?_
  refine lv_aload_n hx hb dX9_readSources_0 rfl (lv_at hl 1 rfl) ?_
  refine lv_aload_n hx hb dX9_readSources_1 rfl (lv_at hl 0 rfl) ?_
  replace h := ob h; obtain ⟨w_28, hw_28, h⟩ := h
  replace h := ob h; obtain ⟨z_27, hv_27, h⟩ := h
  obtain ⟨qk_27, qm_27⟩ := (hT_X9_readSource cs x0 z_27.1 z_27.2 hv_27).1
  obtain ⟨k9_27, m9_27⟩ := mo_c_X9_readSources_b5 F T (fun c_ x_0 z_ r_ h_ => (hT_X9_readQuery c_ x_0 z_ r_ h_).1) (fun c_ x_0 z_ r_ h_ => (hT_X9_readSelect c_ x_0 z_ r_ h_).1) (fun c_ x_0 x_1 z_ h_ => (hT_X9_readSources c_ x_0 x_1 z_ h_).1) (fun c_ x_0 z_ r_ h_ => (hT_X9_readSource c_ x_0 z_ r_ h_).1) z_27.1 x0 x1 z_27.2 x1 cs9 h
  refine cavR (As := []) hx hb hml hts hown hK hP hD hS hG hA (by omega) (by omega) hZ (X := 10) (by decide) rfl (ckE_some hw_28) (hT_X9_readSource cs x0 z_27.1 z_27.2 hv_27) (cw_X9_X9_readSource hts (fr := n + 305) (by show n + 305 + 1 ≤ n + 1 + 305; omega) (by show 8 + (2 + 11) + 60 * (n + 305) ≤ 60 * (n + 1 + 305); omega)) rfl hl.1 (Nat.le_of_ble_eq_true rfl) ⟨by show kK cs - kK cs + (kK z_27.1 - kK cs) ≤ kK cs9 - kK cs; omega, by show kM cs - kM cs + (kM z_27.1 - kM cs) ≤ kM cs9 - kM cs; omega⟩ dX9_readSources_2 (fun H locs hP hD hG hgz hS => ?_)
  refine W_cnt (c2 := kK z_27.1 - kK cs) (n2 := kM z_27.1 - kM cs) (by omega) (by omega) ?_
  exact B_5 z_27.1 x0 x1 z_27.2 x1 h (by omega) (by omega) _ _ _ _ hP hD hG (by omega) hS (lv_sub hl [0, 1] rfl)
set_option maxHeartbeats 4000000 in
set_option maxRecDepth 100000 in
theorem sba_X9_readSource (l : Launch) (dC : Nat → ClassId) (dI : Nat → Nat → Nat) (cB cI cJ cZ cS cO : ClassId) (b : Nat) (K V : Nat → Nat) (fz : Value) (F : Nat) (n : Nat) (T : TC_X9_readQuery) (hT_X9_readQuery : ∀ (cs : CS) (x0 : Nat) (cs9 : CS) (r9 : Nat), T.1 cs x0 = some (cs9, r9) → oaR l dC dI cB cI cJ cZ cS cO b K V fz yX9_readQuery (wsOf yX9_readQuery cX9_readQuery 7 (some (.object "StreamQueries$Query"))) (n + 305) [.ref (b + x0)] cs cs9 r9) (hT_X9_readSelect : ∀ (cs : CS) (x0 : Nat) (cs9 : CS) (r9 : Nat), T.2.1 cs x0 = some (cs9, r9) → oaR l dC dI cB cI cJ cZ cS cO b K V fz yX9_readSelect (wsOf yX9_readSelect cX9_readSelect 5 (some (.object "StreamQueries$Select"))) (n + 305) [.ref (b + x0)] cs cs9 r9) (hT_X9_readSources : ∀ (cs : CS) (x0 : Nat) (x1 : Nat) (cs9 : CS), T.2.2.1 cs x0 x1 = some cs9 → oaV l dC dI cB cI cJ cZ cS cO b K V fz yX9_readSources (wsOf yX9_readSources cX9_readSources 6 none) (n + 305) [.ref (b + x0), .ref (b + x1)] cs cs9) (hT_X9_readSource : ∀ (cs : CS) (x0 : Nat) (cs9 : CS) (r9 : Nat), T.2.2.2 cs x0 = some (cs9, r9) → oaR l dC dI cB cI cJ cZ cS cO b K V fz yX9_readSource (wsOf yX9_readSource cX9_readSource 2 (some (.object "StreamQueries$Source"))) (n + 305) [.ref (b + x0)] cs cs9 r9) (cs : CS) (x0 : Nat) (cs9 : CS) (r9 : Nat) (hf : cb_X9_readSource F T cs x0 = some (cs9, r9)) : oaR l dC dI cB cI cJ cZ cS cO b K V fz yX9_readSource (wsOf yX9_readSource cX9_readSource 2 (some (.object "StreamQueries$Source"))) (n + 1 + 305) [.ref (b + x0)] cs cs9 r9 := by
  obtain ⟨kb9, mb9⟩ := mo_cb_X9_readSource F T (fun c_ x_0 z_ r_ h_ => (hT_X9_readQuery c_ x_0 z_ r_ h_).1) (fun c_ x_0 z_ r_ h_ => (hT_X9_readSelect c_ x_0 z_ r_ h_).1) (fun c_ x_0 x_1 z_ h_ => (hT_X9_readSources c_ x_0 x_1 z_ h_).1) (fun c_ x_0 z_ r_ h_ => (hT_X9_readSource c_ x_0 z_ r_ h_).1) cs x0 cs9 r9 hf
  refine ⟨⟨kb9, mb9⟩, ?_⟩
  refine Met.ofW (cc := cX9_readSource) (maxL := 2) (ret := (some (.object "StreamQueries$Source"))) (by decide) rfl ?_
  intro p e s m args below meth c s₁ B hml hv
  obtain ⟨rfl, hsz, hP, hK, hD0, hZ⟩ := hv
  have hx := B.exec
  have hb := B.bytes
  have hr := B.returns
  have hts := atoms_spec (ws := (wsOf yX9_readSource cX9_readSource 2 (some (.object "StreamQueries$Source")))) B.pre
  have hown : s.vm.findClass RX9 = some m.cls := findClass_of_methodNamed B.named
  have hlocks := B.notSynchronized
  have hD := hD0.self (sz := b + kK cs)
  generalize hAe : va_A (cW cB cI cJ cZ cS cO b cs) (b + kK cs) = A at hD hZ ⊢
  have hA : ∀ q : Nat, s.heap.size ≤ q → A q := fun q h => by rw [← hAe]; exact Or.inr (by omega)
  have hS : va_S A s.heap s.heap [] := va_S.rf
  have hG : va_S A s.heap s.heap [] := va_S.rf
  have hgz : s.heap.size = b + kK cs := hsz
  have hl := lv_entry ([.ref (b + x0)]) (n := 2) (Nat.le_of_ble_eq_true rfl)
  rw [lg_entry_eq]
  generalize (lg_sl ([.ref (b + x0)]) ++ List.replicate (2 - (lg_sl ([.ref (b + x0)])).length) Slot.unset).toArray = ls at hl ⊢
  have hl : lv_has ls 2 [(0, .ref (b + x0))] := hl
  have B_124 : ∀ (cs1 : CS) (u1 : Nat), c_X9_readSource_b124 F T cs1 u1 = some (cs9, r9) → kK cs ≤ kK cs1 → kM cs ≤ kM cs1 → ∀ (Gh H : Heap) (locs : List Loc) (ls : Array Slot), va_P (dC, dI) vwCl (cW cB cI cJ cZ cS cO b cs1) H → va_D A (cW cB cI cJ cZ cS cO b cs1) → va_S A s.heap Gh [] → Gh.size = b + kK cs1 → va_S A Gh H locs → lv_has ls 2 [(1, .ref (b + u1))] → W p l e (headSpec (wsOf yX9_readSource cX9_readSource 2 (some (.object "StreamQueries$Source"))) ({ frames := n + 1 + 305, cells := kK cs9 - kK cs, slots := kM cs9 - kM cs, locals := 60 * (n + 1 + 305) } : Room)).room s m ([.ref (b + x0)] : List Value).toArray below meth c H locs (kK cs1 - kK cs) (kM cs1 - kM cs) (MQ below (va_Qr (fun (_ : Unit) => True) (fun _ a_ t_ => a_ = b + r9 ∧ va_P (dC, dI) vwCl (cW cB cI cJ cZ cS cO b cs9) t_.heap ∧ va_D A (cW cB cI cJ cZ cS cO b cs9) ∧ b + kK cs9 ≤ t_.heap.size) A) ([.ref (b + x0)] : List Value).toArray s (kK cs9 - kK cs) (kM cs9 - kM cs) A) (F0 m 124 ls []) := by
    intro cs1 u1 h hmk hmm Gh H locs ls hP hD hG hgz hS hl
    obtain ⟨kb9, mb9⟩ := mo_c_X9_readSource_b124 F T (fun c_ x_0 z_ r_ h_ => (hT_X9_readQuery c_ x_0 z_ r_ h_).1) (fun c_ x_0 z_ r_ h_ => (hT_X9_readSelect c_ x_0 z_ r_ h_).1) (fun c_ x_0 x_1 z_ h_ => (hT_X9_readSources c_ x_0 x_1 z_ h_).1) (fun c_ x_0 z_ r_ h_ => (hT_X9_readSource c_ x_0 z_ r_ h_).1) cs1 u1 cs9 r9 h
    unfold c_X9_readSource_b124 at h
    refine lv_aload_n hx hb dX9_readSource_124 rfl (lv_at hl 0 rfl) ?_
    obtain ⟨e1, e2⟩ := Prod.mk.inj (Option.some.inj h)
    rw [e1] at hP hD
    have e3 := congrArg kK e1
    have e4 := congrArg kM e1
    refine W_cnt (c2 := kK cs9 - kK cs) (n2 := kM cs9 - kM cs) (by omega) (by omega) ?_
    exact W.aret (v := .ref (b + u1)) hx hb hr (Or.inl ⟨_, rfl⟩) (Or.inr ⟨_, rfl⟩) (fun t_ ht hW => ⟨⟨(), b + u1, rfl, trivial, by rw [e2], by rw [ht]; exact hP, hD, by rw [ht]; have := hS.1; omega⟩, (hG.comp hS).F ht⟩) (hG.comp hS).2.2 dX9_readSource_125
  have B_75 : ∀ (cs1 : CS) (u0 : Nat) (u1 : Nat), c_X9_readSource_b75 F T cs1 u0 u1 = some (cs9, r9) → kK cs ≤ kK cs1 → kM cs ≤ kM cs1 → ∀ (Gh H : Heap) (locs : List Loc) (ls : Array Slot), va_P (dC, dI) vwCl (cW cB cI cJ cZ cS cO b cs1) H → va_D A (cW cB cI cJ cZ cS cO b cs1) → va_S A s.heap Gh [] → Gh.size = b + kK cs1 → va_S A Gh H locs → lv_has ls 2 [(0, .ref (b + u0)), (1, .ref (b + u1))] → W p l e (headSpec (wsOf yX9_readSource cX9_readSource 2 (some (.object "StreamQueries$Source"))) ({ frames := n + 1 + 305, cells := kK cs9 - kK cs, slots := kM cs9 - kM cs, locals := 60 * (n + 1 + 305) } : Room)).room s m ([.ref (b + x0)] : List Value).toArray below meth c H locs (kK cs1 - kK cs) (kM cs1 - kM cs) (MQ below (va_Qr (fun (_ : Unit) => True) (fun _ a_ t_ => a_ = b + r9 ∧ va_P (dC, dI) vwCl (cW cB cI cJ cZ cS cO b cs9) t_.heap ∧ va_D A (cW cB cI cJ cZ cS cO b cs9) ∧ b + kK cs9 ≤ t_.heap.size) A) ([.ref (b + x0)] : List Value).toArray s (kK cs9 - kK cs) (kM cs9 - kM cs) A) (F0 m 75 ls []) := by
    intro cs1 u0 u1 h hmk hmm Gh H locs ls hP hD hG hgz hS hl
    obtain ⟨kb9, mb9⟩ := mo_c_X9_readSource_b75 F T (fun c_ x_0 z_ r_ h_ => (hT_X9_readQuery c_ x_0 z_ r_ h_).1) (fun c_ x_0 z_ r_ h_ => (hT_X9_readSelect c_ x_0 z_ r_ h_).1) (fun c_ x_0 x_1 z_ h_ => (hT_X9_readSources c_ x_0 x_1 z_ h_).1) (fun c_ x_0 z_ r_ h_ => (hT_X9_readSource c_ x_0 z_ r_ h_).1) cs1 u0 u1 cs9 r9 h
    unfold c_X9_readSource_b75 at h
    refine lv_aload_n hx hb dX9_readSource_75 rfl (lv_at hl 0 rfl) ?_
    refine lv_bipush (v := 17) hx hb dX9_readSource_76 (by decide) ?_
    replace h := ob h; obtain ⟨w_2, hw_2, h⟩ := h
    replace h := ob h; obtain ⟨cs_1, hv_1, h⟩ := h
    obtain ⟨qk_1, qm_1⟩ := k_of (mo_c_X9_expect F cs1 u0 17 cs_1 hv_1)
    refine cbvV (As := [.int 17]) hx hb hml hts hown hK hP hD hS hG hA (by omega) (by omega) hZ (X := 10) (by decide) rfl (ckE_some hw_2) (sc_X9_expect l dC dI cB cI cJ cZ cS cO b K V fz F cs1 u0 17 cs_1 hv_1) (cw_X9_X9_expect hts (fr := 1) (by show 1 + 1 ≤ n + 1 + 305; omega) (by show 8 + (2 + 11) + 60 * (1) ≤ 60 * (n + 1 + 305); omega)) rfl hl.1 (Nat.le_of_ble_eq_true rfl) ⟨by show kK cs1 - kK cs ≤ kK cs9 - kK cs; omega, by show kM cs1 - kM cs ≤ kM cs9 - kM cs; omega⟩ dX9_readSource_78 (fun H locs hP hD hG hgz hS => ?_)
    refine lv_aload_n hx hb dX9_readSource_81 rfl (lv_at hl 1 rfl) ?_
    refine lv_aload_n hx hb dX9_readSource_82 rfl (lv_at hl 0 rfl) ?_
    replace h := ob h; obtain ⟨w_4, hw_4, h⟩ := h
    replace h := ob h; obtain ⟨v_3, hv_3, h⟩ := h
    refine cbvI (As := []) hx hb hml hts hown hK hP hD hS hG hA (by omega) (by omega) hZ (X := 10) (by decide) rfl (ckE_some hw_4) (sc_X9_here l dC dI cB cI cJ cZ cS cO b K V fz F cs_1 u0 v_3 hv_3) (cw_X9_X9_here hts (fr := 0) (by show 0 + 1 ≤ n + 1 + 305; omega) (by show 8 + (1 + 11) + 60 * (0) ≤ 60 * (n + 1 + 305); omega)) rfl hl.1 (Nat.le_of_ble_eq_true rfl) ⟨by show kK cs1 - kK cs ≤ kK cs9 - kK cs; omega, by show kM cs1 - kM cs ≤ kM cs9 - kM cs; omega⟩ dX9_readSource_83 (fun H locs hP hD hG hgz hS => ?_)
    replace h := ob h; obtain ⟨cs_5, hv_5, h⟩ := h
    obtain ⟨qk_5, qm_5⟩ := pI_k hv_5
    refine fp_X9_282 hx hb hts hown hK hP hD hS hv_5 dX9_readSource_86 (fun H locs hP hD hS => ?_)
    refine lv_aload_n hx hb dX9_readSource_89 rfl (lv_at hl 1 rfl) ?_
    refine lv_aload_n hx hb dX9_readSource_90 rfl (lv_at hl 0 rfl) ?_
    replace h := ob h; obtain ⟨w_7, hw_7, h⟩ := h
    replace h := ob h; obtain ⟨z_6, hv_6, h⟩ := h
    obtain ⟨qk_6, qm_6⟩ := k_of (mo_c_X9_readName F cs_5 u0 z_6.1 z_6.2 hv_6)
    refine cbvL (As := []) hx hb hml hts hown hK hP hD hS hG hA (by omega) (by omega) hZ (X := 10) (by decide) rfl (ckE_some hw_7) (sc_X9_readName l dC dI cB cI cJ cZ cS cO b K V fz F cs_5 u0 z_6.1 z_6.2 hv_6) (cw_X9_X9_readName hts (fr := 2) (by show 2 + 1 ≤ n + 1 + 305; omega) (by show 8 + (3 + 11) + 60 * (2) ≤ 60 * (n + 1 + 305); omega)) rfl hl.1 (Nat.le_of_ble_eq_true rfl) ⟨by show kK cs1 - kK cs ≤ kK cs9 - kK cs; omega, by show kM cs1 - kM cs ≤ kM cs9 - kM cs; omega⟩ dX9_readSource_91 (fun H locs hP hD hG hgz hS => ?_)
    replace h := ob h; obtain ⟨cs_8, hv_8, h⟩ := h
    obtain ⟨qk_8, qm_8⟩ := pJ_k hv_8
    refine fp_X9_285 hx hb hts hown hK hP hD hS hv_8 dX9_readSource_94 (fun H locs hP hD hS => ?_)
    refine lv_aload_n hx hb dX9_readSource_97 rfl (lv_at hl 1 rfl) ?_
    replace h := ob h; obtain ⟨v_9, hv_9, h⟩ := h
    refine fg_X9_269 hx hb hts hown hK hP hv_9 dX9_readSource_98 ?_
    cases v_9 with
    | none =>
      replace h := oc_n.symm.trans h
      refine lv_ifnonnullN hx hb dX9_readSource_101 ?_
      refine lv_aload_n hx hb dX9_readSource_104 rfl (lv_at hl 0 rfl) ?_
      refine lv_bipush (v := 18) hx hb dX9_readSource_105 (by decide) ?_
      replace h := ob h; obtain ⟨w_12, hw_12, h⟩ := h
      replace h := ob h; obtain ⟨z_11, hv_11, h⟩ := h
      obtain ⟨qk_11, qm_11⟩ := k_of (mo_c_X9_accept F cs_8 u0 18 z_11.1 z_11.2 hv_11)
      refine cbvI (As := [.int 18]) hx hb hml hts hown hK hP hD hS hG hA (by omega) (by omega) hZ (X := 10) (by decide) rfl (ckE_some hw_12) (sc_X9_accept l dC dI cB cI cJ cZ cS cO b K V fz F cs_8 u0 18 z_11.1 z_11.2 hv_11) (cw_X9_X9_accept hts (fr := 1) (by show 1 + 1 ≤ n + 1 + 305; omega) (by show 8 + (3 + 11) + 60 * (1) ≤ 60 * (n + 1 + 305); omega)) rfl hl.1 (Nat.le_of_ble_eq_true rfl) ⟨by show kK cs1 - kK cs ≤ kK cs9 - kK cs; omega, by show kM cs1 - kM cs ≤ kM cs9 - kM cs; omega⟩ dX9_readSource_107 (fun H locs hP hD hG hgz hS => ?_)
      refine lv_if_eq (tgt := 124) hx hb dX9_readSource_110 (by decide) (fun c_13 => ?_) (fun c_13 => ?_)
      · skip
        replace h := (if_pos c_13).symm.trans h
        refine W_cnt (c2 := kK z_11.1 - kK cs) (n2 := kM z_11.1 - kM cs) (by omega) (by omega) ?_
        exact B_124 z_11.1 u1 h (by omega) (by omega) _ _ _ _ hP hD hG (by omega) hS (lv_sub hl [1] rfl)
      · skip
        replace h := (if_neg c_13).symm.trans h
        refine lv_aload_n hx hb dX9_readSource_113 rfl (lv_at hl 1 rfl) ?_
        refine lv_aload_n hx hb dX9_readSource_114 rfl (lv_at hl 0 rfl) ?_
        refine lv_ldc2 hx hb hown (hts _ (List.mem_cons_of_mem _ kw_1119)) dX9_readSource_115 ?_
        replace h := ob h; obtain ⟨w_15, hw_15, h⟩ := h
        replace h := ob h; obtain ⟨z_14, hv_14, h⟩ := h
        obtain ⟨qk_14, qm_14⟩ := k_of (mo_c_X9_readNumber F z_11.1 u0 (9223372036854775807) z_14.1 z_14.2 hv_14)
        refine cbvL (As := [.long (9223372036854775807)]) hx hb hml hts hown hK hP hD hS hG hA (by omega) (by omega) hZ (X := 10) (by decide) rfl (ckE_some hw_15) (sc_X9_readNumber l dC dI cB cI cJ cZ cS cO b K V fz F z_11.1 u0 (9223372036854775807) z_14.1 z_14.2 hv_14) (cw_X9_X9_readNumber hts (fr := 2) (by show 2 + 1 ≤ n + 1 + 305; omega) (by show 8 + (5 + 11) + 60 * (2) ≤ 60 * (n + 1 + 305); omega)) rfl hl.1 (Nat.le_of_ble_eq_true rfl) ⟨by show kK cs1 - kK cs ≤ kK cs9 - kK cs; omega, by show kM cs1 - kM cs ≤ kM cs9 - kM cs; omega⟩ dX9_readSource_118 (fun H locs hP hD hG hgz hS => ?_)
        replace h := ob h; obtain ⟨cs_16, hv_16, h⟩ := h
        obtain ⟨qk_16, qm_16⟩ := pJ_k hv_16
        refine fp_X9_83 hx hb hts hown hK hP hD hS hv_16 dX9_readSource_121 (fun H locs hP hD hS => ?_)
        refine W_cnt (c2 := kK cs_16 - kK cs) (n2 := kM cs_16 - kM cs) (by omega) (by omega) ?_
        exact B_124 cs_16 u1 h (by omega) (by omega) _ _ _ _ hP hD hG (by omega) hS (lv_sub hl [1] rfl)
    | some i_10 =>
      replace h := oc_s.symm.trans h
      refine lv_ifnonnull (tgt := 124) hx hb dX9_readSource_101 (by decide) ?_
      refine W_cnt (c2 := kK cs_8 - kK cs) (n2 := kM cs_8 - kM cs) (by omega) (by omega) ?_
      exact B_124 cs_8 u1 h (by omega) (by omega) _ _ _ _ hP hD hG (by omega) hS (lv_sub hl [1] rfl)
  have B_40 : ∀ (cs1 : CS) (u0 : Nat) (u1 : Nat) (y0 : Nat) (y1 : Nat), c_X9_readSource_b40 F T cs1 u0 u1 y0 y1 = some (cs9, r9) → kK cs ≤ kK cs1 → kM cs ≤ kM cs1 → ∀ (Gh H : Heap) (locs : List Loc) (ls : Array Slot), va_P (dC, dI) vwCl (cW cB cI cJ cZ cS cO b cs1) H → va_D A (cW cB cI cJ cZ cS cO b cs1) → va_S A s.heap Gh [] → Gh.size = b + kK cs1 → va_S A Gh H locs → lv_has ls 2 [(0, .ref (b + u0)), (1, .ref (b + u1))] → W p l e (headSpec (wsOf yX9_readSource cX9_readSource 2 (some (.object "StreamQueries$Source"))) ({ frames := n + 1 + 305, cells := kK cs9 - kK cs, slots := kM cs9 - kM cs, locals := 60 * (n + 1 + 305) } : Room)).room s m ([.ref (b + x0)] : List Value).toArray below meth c H locs (kK cs1 - kK cs) (kM cs1 - kM cs) (MQ below (va_Qr (fun (_ : Unit) => True) (fun _ a_ t_ => a_ = b + r9 ∧ va_P (dC, dI) vwCl (cW cB cI cJ cZ cS cO b cs9) t_.heap ∧ va_D A (cW cB cI cJ cZ cS cO b cs9) ∧ b + kK cs9 ≤ t_.heap.size) A) ([.ref (b + x0)] : List Value).toArray s (kK cs9 - kK cs) (kM cs9 - kM cs) A) (F0 m 40 ls [.ref (b + y0), .ref (b + y1)]) := by
    intro cs1 u0 u1 y0 y1 h hmk hmm Gh H locs ls hP hD hG hgz hS hl
    obtain ⟨kb9, mb9⟩ := mo_c_X9_readSource_b40 F T (fun c_ x_0 z_ r_ h_ => (hT_X9_readQuery c_ x_0 z_ r_ h_).1) (fun c_ x_0 z_ r_ h_ => (hT_X9_readSelect c_ x_0 z_ r_ h_).1) (fun c_ x_0 x_1 z_ h_ => (hT_X9_readSources c_ x_0 x_1 z_ h_).1) (fun c_ x_0 z_ r_ h_ => (hT_X9_readSource c_ x_0 z_ r_ h_).1) cs1 u0 u1 y0 y1 cs9 r9 h
    unfold c_X9_readSource_b40 at h
    replace h := ob h; obtain ⟨cs_17, hv_17, h⟩ := h
    obtain ⟨qk_17, qm_17⟩ := pR_k hv_17
    refine fp_X9_269 (v := (some y0)) hx hb hts hown hK hP hD hS hv_17 dX9_readSource_40 (fun H locs hP hD hS => ?_)
    refine lv_aload_n hx hb dX9_readSource_43 rfl (lv_at hl 1 rfl) ?_
    refine lv_aload_n hx hb dX9_readSource_44 rfl (lv_at hl 0 rfl) ?_
    replace h := ob h; obtain ⟨w_19, hw_19, h⟩ := h
    replace h := ob h; obtain ⟨v_18, hv_18, h⟩ := h
    refine cbvI (As := []) hx hb hml hts hown hK hP hD hS hG hA (by omega) (by omega) hZ (X := 10) (by decide) rfl (ckE_some hw_19) (sc_X9_here l dC dI cB cI cJ cZ cS cO b K V fz F cs_17 u0 v_18 hv_18) (cw_X9_X9_here hts (fr := 0) (by show 0 + 1 ≤ n + 1 + 305; omega) (by show 8 + (1 + 11) + 60 * (0) ≤ 60 * (n + 1 + 305); omega)) rfl hl.1 (Nat.le_of_ble_eq_true rfl) ⟨by show kK cs1 - kK cs ≤ kK cs9 - kK cs; omega, by show kM cs1 - kM cs ≤ kM cs9 - kM cs; omega⟩ dX9_readSource_45 (fun H locs hP hD hG hgz hS => ?_)
    replace h := ob h; obtain ⟨cs_20, hv_20, h⟩ := h
    obtain ⟨qk_20, qm_20⟩ := pI_k hv_20
    refine fp_X9_272 hx hb hts hown hK hP hD hS hv_20 dX9_readSource_48 (fun H locs hP hD hS => ?_)
    refine lv_aload_n hx hb dX9_readSource_51 rfl (lv_at hl 0 rfl) ?_
    refine lv_bipush (v := 42) hx hb dX9_readSource_52 (by decide) ?_
    replace h := ob h; obtain ⟨w_22, hw_22, h⟩ := h
    replace h := ob h; obtain ⟨cs_21, hv_21, h⟩ := h
    obtain ⟨qk_21, qm_21⟩ := k_of (mo_c_X9_expect F cs_20 u0 42 cs_21 hv_21)
    refine cbvV (As := [.int 42]) hx hb hml hts hown hK hP hD hS hG hA (by omega) (by omega) hZ (X := 10) (by decide) rfl (ckE_some hw_22) (sc_X9_expect l dC dI cB cI cJ cZ cS cO b K V fz F cs_20 u0 42 cs_21 hv_21) (cw_X9_X9_expect hts (fr := 1) (by show 1 + 1 ≤ n + 1 + 305; omega) (by show 8 + (2 + 11) + 60 * (1) ≤ 60 * (n + 1 + 305); omega)) rfl hl.1 (Nat.le_of_ble_eq_true rfl) ⟨by show kK cs1 - kK cs ≤ kK cs9 - kK cs; omega, by show kM cs1 - kM cs ≤ kM cs9 - kM cs; omega⟩ dX9_readSource_54 (fun H locs hP hD hG hgz hS => ?_)
    refine lv_aload_n hx hb dX9_readSource_57 rfl (lv_at hl 0 rfl) ?_
    refine lv_dup hx hb dX9_readSource_58 rfl ?_
    replace h := ob h; obtain ⟨v_23, hv_23, h⟩ := h
    refine fg_X9_275 hx hb hts hown hK hP hv_23 dX9_readSource_59 ?_
    refine lv_iconst (v := 1) hx hb dX9_readSource_62 (by decide) ?_
    refine lv_isub hx hb dX9_readSource_63 ?_
    replace h := ob h; obtain ⟨cs_24, hv_24, h⟩ := h
    obtain ⟨qk_24, qm_24⟩ := pI_k hv_24
    refine fp_X9_275 hx hb hts hown hK hP hD hS hv_24 dX9_readSource_64 (fun H locs hP hD hS => ?_)
    refine lv_goto (tgt := 75) hx hb dX9_readSource_67 (by decide) ?_
    refine W_cnt (c2 := kK cs_24 - kK cs) (n2 := kM cs_24 - kM cs) (by omega) (by omega) ?_
    exact B_75 cs_24 u0 u1 h (by omega) (by omega) _ _ _ _ hP hD hG (by omega) hS (lv_sub hl [0, 1] rfl)
  have B_7 : ∀ (cs1 : CS) (u0 : Nat) (y0 : Nat), c_X9_readSource_b7 F T cs1 u0 y0 = some (cs9, r9) → kK cs ≤ kK cs1 → kM cs ≤ kM cs1 → ∀ (Gh H : Heap) (locs : List Loc) (ls : Array Slot), va_P (dC, dI) vwCl (cW cB cI cJ cZ cS cO b cs1) H → va_D A (cW cB cI cJ cZ cS cO b cs1) → va_S A s.heap Gh [] → Gh.size = b + kK cs1 → va_S A Gh H locs → lv_has ls 2 [(0, .ref (b + u0))] → W p l e (headSpec (wsOf yX9_readSource cX9_readSource 2 (some (.object "StreamQueries$Source"))) ({ frames := n + 1 + 305, cells := kK cs9 - kK cs, slots := kM cs9 - kM cs, locals := 60 * (n + 1 + 305) } : Room)).room s m ([.ref (b + x0)] : List Value).toArray below meth c H locs (kK cs1 - kK cs) (kM cs1 - kM cs) (MQ below (va_Qr (fun (_ : Unit) => True) (fun _ a_ t_ => a_ = b + r9 ∧ va_P (dC, dI) vwCl (cW cB cI cJ cZ cS cO b cs9) t_.heap ∧ va_D A (cW cB cI cJ cZ cS cO b cs9) ∧ b + kK cs9 ≤ t_.heap.size) A) ([.ref (b + x0)] : List Value).toArray s (kK cs9 - kK cs) (kM cs9 - kM cs) A) (F0 m 7 ls [.ref (b + y0)]) := by
    intro cs1 u0 y0 h hmk hmm Gh H locs ls hP hD hG hgz hS hl
    obtain ⟨kb9, mb9⟩ := mo_c_X9_readSource_b7 F T (fun c_ x_0 z_ r_ h_ => (hT_X9_readQuery c_ x_0 z_ r_ h_).1) (fun c_ x_0 z_ r_ h_ => (hT_X9_readSelect c_ x_0 z_ r_ h_).1) (fun c_ x_0 x_1 z_ h_ => (hT_X9_readSources c_ x_0 x_1 z_ h_).1) (fun c_ x_0 z_ r_ h_ => (hT_X9_readSource c_ x_0 z_ r_ h_).1) cs1 u0 y0 cs9 r9 h
    unfold c_X9_readSource_b7 at h
    refine lv_astore_n (lv' := [(1, .ref (b + y0)), (0, .ref (b + u0))]) hx hb dX9_readSource_7 rfl hl (by decide) rfl (fun ls hl => ?_)
    refine lv_aload_n hx hb dX9_readSource_8 rfl (lv_at hl 0 rfl) ?_
    refine lv_aload_n hx hb dX9_readSource_9 rfl (lv_at hl 1 rfl) ?_
    replace h := ob h; obtain ⟨w_26, hw_26, h⟩ := h
    replace h := ob h; obtain ⟨v_25, hv_25, h⟩ := h
    refine cbvI (As := []) hx hb hml hts hown hK hP hD hS hG hA (by omega) (by omega) hZ (X := 10) (by decide) rfl (ckE_some hw_26) (sc_X9_here l dC dI cB cI cJ cZ cS cO b K V fz F cs1 u0 v_25 hv_25) (cw_X9_X9_here hts (fr := 0) (by show 0 + 1 ≤ n + 1 + 305; omega) (by show 8 + (1 + 11) + 60 * (0) ≤ 60 * (n + 1 + 305); omega)) rfl hl.1 (Nat.le_of_ble_eq_true rfl) ⟨by show kK cs1 - kK cs ≤ kK cs9 - kK cs; omega, by show kM cs1 - kM cs ≤ kM cs9 - kM cs; omega⟩ dX9_readSource_10 (fun H locs hP hD hG hgz hS => ?_)
    replace h := ob h; obtain ⟨cs_27, hv_27, h⟩ := h
    obtain ⟨qk_27, qm_27⟩ := pI_k hv_27
    refine fp_X9_265 hx hb hts hown hK hP hD hS hv_27 dX9_readSource_13 (fun H locs hP hD hS => ?_)
    refine lv_aload_n hx hb dX9_readSource_16 rfl (lv_at hl 1 rfl) ?_
    replace h := ob h; obtain ⟨w_29, hw_29, h⟩ := h
    replace h := ob h; obtain ⟨v_28, hv_28, h⟩ := h
    refine cbvI (As := []) hx hb hml hts hown hK hP hD hS hG hA (by omega) (by omega) hZ (X := 10) (by decide) rfl (ckE_some hw_29) (sc_X9_kind l dC dI cB cI cJ cZ cS cO b K V fz F cs_27 u0 v_28 hv_28) (cw_X9_X9_kind hts (fr := 0) (by show 0 + 1 ≤ n + 1 + 305; omega) (by show 8 + (1 + 11) + 60 * (0) ≤ 60 * (n + 1 + 305); omega)) rfl hl.1 (Nat.le_of_ble_eq_true rfl) ⟨by show kK cs1 - kK cs ≤ kK cs9 - kK cs; omega, by show kM cs1 - kM cs ≤ kM cs9 - kM cs; omega⟩ dX9_readSource_17 (fun H locs hP hD hG hgz hS => ?_)
    refine lv_bipush (v := 41) hx hb dX9_readSource_20 (by decide) ?_
    refine lv_icmp_ne (tgt := 70) hx hb dX9_readSource_22 (by decide) (fun c_30 => ?_) (fun c_30 => ?_)
    · skip
      replace h := (if_neg c_30).symm.trans h
      refine lv_aload_n hx hb dX9_readSource_70 rfl (lv_at hl 1 rfl) ?_
      refine lv_aload_n hx hb dX9_readSource_71 rfl (lv_at hl 0 rfl) ?_
      replace h := ob h; obtain ⟨w_32, hw_32, h⟩ := h
      replace h := ob h; obtain ⟨cs_31, hv_31, h⟩ := h
      obtain ⟨qk_31, qm_31⟩ := k_of (mo_c_X9_readLeaf F cs_27 u0 y0 cs_31 hv_31)
      refine cbvV (As := [.ref (b + y0)]) hx hb hml hts hown hK hP hD hS hG hA (by omega) (by omega) hZ (X := 10) (by decide) rfl (ckE_some hw_32) (sc_X9_readLeaf l dC dI cB cI cJ cZ cS cO b K V fz F cs_27 u0 y0 cs_31 hv_31) (cw_X9_X9_readLeaf hts (fr := 1) (by show 1 + 1 ≤ n + 1 + 305; omega) (by show 8 + (4 + 11) + 60 * (1) ≤ 60 * (n + 1 + 305); omega)) rfl hl.1 (Nat.le_of_ble_eq_true rfl) ⟨by show kK cs1 - kK cs ≤ kK cs9 - kK cs; omega, by show kM cs1 - kM cs ≤ kM cs9 - kM cs; omega⟩ dX9_readSource_72 (fun H locs hP hD hG hgz hS => ?_)
      refine W_cnt (c2 := kK cs_31 - kK cs) (n2 := kM cs_31 - kM cs) (by omega) (by omega) ?_
      exact B_75 cs_31 u0 y0 h (by omega) (by omega) _ _ _ _ hP hD hG (by omega) hS (lv_sub hl [1, 0] rfl)
    · skip
      replace h := (if_pos c_30).symm.trans h
      refine lv_aload_n hx hb dX9_readSource_25 rfl (lv_at hl 1 rfl) ?_
      replace h := ob h; obtain ⟨w_34, hw_34, h⟩ := h
      replace h := ob h; obtain ⟨cs_33, hv_33, h⟩ := h
      obtain ⟨qk_33, qm_33⟩ := k_of (mo_c_X9_deepen F cs_27 u0 cs_33 hv_33)
      refine cbvV (As := []) hx hb hml hts hown hK hP hD hS hG hA (by omega) (by omega) hZ (X := 10) (by decide) rfl (ckE_some hw_34) (sc_X9_deepen l dC dI cB cI cJ cZ cS cO b K V fz F cs_27 u0 cs_33 hv_33) (cw_X9_X9_deepen hts (fr := 1) (by show 1 + 1 ≤ n + 1 + 305; omega) (by show 8 + (1 + 11) + 60 * (1) ≤ 60 * (n + 1 + 305); omega)) rfl hl.1 (Nat.le_of_ble_eq_true rfl) ⟨by show kK cs1 - kK cs ≤ kK cs9 - kK cs; omega, by show kM cs1 - kM cs ≤ kM cs9 - kM cs; omega⟩ dX9_readSource_26 (fun H locs hP hD hG hgz hS => ?_)
      refine lv_aload_n hx hb dX9_readSource_29 rfl (lv_at hl 1 rfl) ?_
      refine lv_bipush (v := 41) hx hb dX9_readSource_30 (by decide) ?_
      replace h := ob h; obtain ⟨w_36, hw_36, h⟩ := h
      replace h := ob h; obtain ⟨cs_35, hv_35, h⟩ := h
      obtain ⟨qk_35, qm_35⟩ := k_of (mo_c_X9_expect F cs_33 u0 41 cs_35 hv_35)
      refine cbvV (As := [.int 41]) hx hb hml hts hown hK hP hD hS hG hA (by omega) (by omega) hZ (X := 10) (by decide) rfl (ckE_some hw_36) (sc_X9_expect l dC dI cB cI cJ cZ cS cO b K V fz F cs_33 u0 41 cs_35 hv_35) (cw_X9_X9_expect hts (fr := 1) (by show 1 + 1 ≤ n + 1 + 305; omega) (by show 8 + (2 + 11) + 60 * (1) ≤ 60 * (n + 1 + 305); omega)) rfl hl.1 (Nat.le_of_ble_eq_true rfl) ⟨by show kK cs1 - kK cs ≤ kK cs9 - kK cs; omega, by show kM cs1 - kM cs ≤ kM cs9 - kM cs; omega⟩ dX9_readSource_32 (fun H locs hP hD hG hgz hS => ?_)
      refine lv_aload_n hx hb dX9_readSource_35 rfl (lv_at hl 0 rfl) ?_
      refine lv_aload_n hx hb dX9_readSource_36 rfl (lv_at hl 1 rfl) ?_
      replace h := ob h; obtain ⟨w_38, hw_38, h⟩ := h
      replace h := ob h; obtain ⟨z_37, hv_37, h⟩ := h
      obtain ⟨qk_37, qm_37⟩ := (hT_X9_readQuery cs_35 u0 z_37.1 z_37.2 hv_37).1
      obtain ⟨k9_37, m9_37⟩ := mo_c_X9_readSource_b40 F T (fun c_ x_0 z_ r_ h_ => (hT_X9_readQuery c_ x_0 z_ r_ h_).1) (fun c_ x_0 z_ r_ h_ => (hT_X9_readSelect c_ x_0 z_ r_ h_).1) (fun c_ x_0 x_1 z_ h_ => (hT_X9_readSources c_ x_0 x_1 z_ h_).1) (fun c_ x_0 z_ r_ h_ => (hT_X9_readSource c_ x_0 z_ r_ h_).1) z_37.1 u0 y0 z_37.2 y0 cs9 r9 h
      refine cavR (As := []) hx hb hml hts hown hK hP hD hS hG hA (by omega) (by omega) hZ (X := 10) (by decide) rfl (ckE_some hw_38) (hT_X9_readQuery cs_35 u0 z_37.1 z_37.2 hv_37) (cw_X9_X9_readQuery hts (fr := n + 305) (by show n + 305 + 1 ≤ n + 1 + 305; omega) (by show 8 + (7 + 11) + 60 * (n + 305) ≤ 60 * (n + 1 + 305); omega)) rfl hl.1 (Nat.le_of_ble_eq_true rfl) ⟨by show kK cs1 - kK cs + (kK z_37.1 - kK cs_35) ≤ kK cs9 - kK cs; omega, by show kM cs1 - kM cs + (kM z_37.1 - kM cs_35) ≤ kM cs9 - kM cs; omega⟩ dX9_readSource_37 (fun H locs hP hD hG hgz hS => ?_)
      refine W_cnt (c2 := kK z_37.1 - kK cs) (n2 := kM z_37.1 - kM cs) (by omega) (by omega) ?_
      exact B_40 z_37.1 u0 y0 z_37.2 y0 h (by omega) (by omega) _ _ _ _ hP hD hG (by omega) hS (lv_sub hl [1, 0] rfl)
  have B_3 : ∀ (cs1 : CS) (u0 : Nat) (y0 : Nat), c_X9_readSource_b3 F T cs1 u0 y0 = some (cs9, r9) → kK cs ≤ kK cs1 → kM cs ≤ kM cs1 → ∀ (Gh H : Heap) (locs : List Loc) (ls : Array Slot), va_P (dC, dI) vwCl (cW cB cI cJ cZ cS cO b cs1) H → va_D A (cW cB cI cJ cZ cS cO b cs1) → va_S A s.heap Gh [] → Gh.size = b + kK cs1 → va_S A Gh H locs → lv_has ls 2 [(0, .ref (b + u0))] → W p l e (headSpec (wsOf yX9_readSource cX9_readSource 2 (some (.object "StreamQueries$Source"))) ({ frames := n + 1 + 305, cells := kK cs9 - kK cs, slots := kM cs9 - kM cs, locals := 60 * (n + 1 + 305) } : Room)).room s m ([.ref (b + x0)] : List Value).toArray below meth c H locs (kK cs1 - kK cs) (kM cs1 - kM cs) (MQ below (va_Qr (fun (_ : Unit) => True) (fun _ a_ t_ => a_ = b + r9 ∧ va_P (dC, dI) vwCl (cW cB cI cJ cZ cS cO b cs9) t_.heap ∧ va_D A (cW cB cI cJ cZ cS cO b cs9) ∧ b + kK cs9 ≤ t_.heap.size) A) ([.ref (b + x0)] : List Value).toArray s (kK cs9 - kK cs) (kM cs9 - kM cs) A) (F0 m 3 ls [.ref (b + y0)]) := by
    intro cs1 u0 y0 h hmk hmm Gh H locs ls hP hD hG hgz hS hl
    obtain ⟨kb9, mb9⟩ := mo_c_X9_readSource_b3 F T (fun c_ x_0 z_ r_ h_ => (hT_X9_readQuery c_ x_0 z_ r_ h_).1) (fun c_ x_0 z_ r_ h_ => (hT_X9_readSelect c_ x_0 z_ r_ h_).1) (fun c_ x_0 x_1 z_ h_ => (hT_X9_readSources c_ x_0 x_1 z_ h_).1) (fun c_ x_0 z_ r_ h_ => (hT_X9_readSource c_ x_0 z_ r_ h_).1) cs1 u0 y0 cs9 r9 h
    unfold c_X9_readSource_b3 at h
    refine lv_dup hx hb dX9_readSource_3 rfl ?_
    replace h := ob h; obtain ⟨cs_39, hv_39, h⟩ := h
    obtain ⟨qk_39, qm_39⟩ := mo_c_X6_init F cs1 y0 cs_39 hv_39
    obtain ⟨k9_39, m9_39⟩ := mo_c_X9_readSource_b7 F T (fun c_ x_0 z_ r_ h_ => (hT_X9_readQuery c_ x_0 z_ r_ h_).1) (fun c_ x_0 z_ r_ h_ => (hT_X9_readSelect c_ x_0 z_ r_ h_).1) (fun c_ x_0 x_1 z_ h_ => (hT_X9_readSources c_ x_0 x_1 z_ h_).1) (fun c_ x_0 z_ r_ h_ => (hT_X9_readSource c_ x_0 z_ r_ h_).1) cs_39 u0 y0 cs9 r9 h
    refine camV (As := []) hx hb hml hts hown hK hP hD hS hG hA (by omega) (by omega) hZ (sa_X6_init l dC dI cB cI cJ cZ cS cO b K V fz F cs1 y0 cs_39 hv_39) (cw_X9_X6_init hZ hts (fr := 2) (by show 2 + 1 ≤ n + 1 + 305; omega) (by show 8 + (1 + 11) + 60 * (2) ≤ 60 * (n + 1 + 305); omega)) rfl hl.1 (Nat.le_of_ble_eq_true rfl) ⟨by show kK cs1 - kK cs + (kK cs_39 - kK cs1) ≤ kK cs9 - kK cs; omega, by show kM cs1 - kM cs + (kM cs_39 - kM cs1) ≤ kM cs9 - kM cs; omega⟩ dX9_readSource_4 (fun H locs hP hD hG hgz hS => ?_)
    refine W_cnt (c2 := kK cs_39 - kK cs) (n2 := kM cs_39 - kM cs) (by omega) (by omega) ?_
    exact B_7 cs_39 u0 y0 h (by omega) (by omega) _ _ _ _ hP hD hG (by omega) hS (lv_sub hl [0] rfl)
  have h := hf
  unfold cb_X9_readSource at h
  refine W_cnt (c2 := kK cs - kK cs) (n2 := kM cs - kM cs) (by omega) (by omega) ?_
  replace h := ob h; obtain ⟨cs_40, hv_40, h⟩ := h
  obtain ⟨qk_40, qm_40⟩ := nwO_k hv_40
  obtain ⟨k9_40, m9_40⟩ := mo_c_X9_readSource_b3 F T (fun c_ x_0 z_ r_ h_ => (hT_X9_readQuery c_ x_0 z_ r_ h_).1) (fun c_ x_0 z_ r_ h_ => (hT_X9_readSelect c_ x_0 z_ r_ h_).1) (fun c_ x_0 x_1 z_ h_ => (hT_X9_readSources c_ x_0 x_1 z_ h_).1) (fun c_ x_0 z_ r_ h_ => (hT_X9_readSource c_ x_0 z_ r_ h_).1) cs_40 x0 (kK cs) cs9 r9 h
  refine new_X9_30 hx hb hts hown hK hP hD hS hG hA (by omega) (by omega) ⟨by show kK cs - kK cs + 1 ≤ kK cs9 - kK cs; omega, by show kM cs - kM cs + 12 ≤ kM cs9 - kM cs; omega⟩ hv_40 dX9_readSource_0 (fun H locs hP hD hG hgz hS => ?_)
  refine W_cnt (c2 := kK cs_40 - kK cs) (n2 := kM cs_40 - kM cs) (by omega) (by omega) ?_
  exact B_3 cs_40 x0 (kK cs) h (by omega) (by omega) _ _ _ _ hP hD hG (by omega) hS (lv_sub hl [0] rfl)
def c_X9_readQuery (F n : Nat) (cs : CS) (x0 : Nat) : Option (CS × Nat) := (tabc_X9_readQuery F n).1 cs x0
def c_X9_readSelect (F n : Nat) (cs : CS) (x0 : Nat) : Option (CS × Nat) := (tabc_X9_readQuery F n).2.1 cs x0
def c_X9_readSources (F n : Nat) (cs : CS) (x0 : Nat) (x1 : Nat) : Option CS := (tabc_X9_readQuery F n).2.2.1 cs x0 x1
def c_X9_readSource (F n : Nat) (cs : CS) (x0 : Nat) : Option (CS × Nat) := (tabc_X9_readQuery F n).2.2.2 cs x0
theorem mog_X9_readQuery (F : Nat) : ∀ n : Nat, (∀ (cs : CS) (x0 : Nat) (cs9 : CS) (r9 : Nat), (tabc_X9_readQuery F n).1 cs x0 = some (cs9, r9) → kK cs ≤ kK cs9 ∧ kM cs ≤ kM cs9) ∧ (∀ (cs : CS) (x0 : Nat) (cs9 : CS) (r9 : Nat), (tabc_X9_readQuery F n).2.1 cs x0 = some (cs9, r9) → kK cs ≤ kK cs9 ∧ kM cs ≤ kM cs9) ∧ (∀ (cs : CS) (x0 : Nat) (x1 : Nat) (cs9 : CS), (tabc_X9_readQuery F n).2.2.1 cs x0 x1 = some cs9 → kK cs ≤ kK cs9 ∧ kM cs ≤ kM cs9) ∧ (∀ (cs : CS) (x0 : Nat) (cs9 : CS) (r9 : Nat), (tabc_X9_readQuery F n).2.2.2 cs x0 = some (cs9, r9) → kK cs ≤ kK cs9 ∧ kM cs ≤ kM cs9) := by
  intro n
  induction n with
  | zero => exact ⟨fun _ _ _ _ h => (by cases (show (none : Option (CS × Nat)) = _ from h)), fun _ _ _ _ h => (by cases (show (none : Option (CS × Nat)) = _ from h)), fun _ _ _ _ h => (by cases (show (none : Option CS) = _ from h)), fun _ _ _ _ h => (by cases (show (none : Option (CS × Nat)) = _ from h))⟩
  | succ n ih =>
    obtain ⟨hh0, hh1, hh2, hh3⟩ := ih
    exact ⟨fun cs w0 w1 w2 h => mo_cb_X9_readQuery F (tabc_X9_readQuery F n) hh0 hh1 hh2 hh3 cs w0 w1 w2 h, fun cs w0 w1 w2 h => mo_cb_X9_readSelect F (tabc_X9_readQuery F n) hh0 hh1 hh2 hh3 cs w0 w1 w2 h, fun cs w0 w1 w2 h => mo_cb_X9_readSources F (tabc_X9_readQuery F n) hh0 hh1 hh2 hh3 cs w0 w1 w2 h, fun cs w0 w1 w2 h => mo_cb_X9_readSource F (tabc_X9_readQuery F n) hh0 hh1 hh2 hh3 cs w0 w1 w2 h⟩
theorem mo_c_X9_readQuery (F n : Nat) (cs : CS) (x0 : Nat) (cs9 : CS) (r9 : Nat) (h : c_X9_readQuery F n cs x0 = some (cs9, r9)) : kK cs ≤ kK cs9 ∧ kM cs ≤ kM cs9 := (mog_X9_readQuery F n).1 cs x0 cs9 r9 h
theorem mo_c_X9_readSelect (F n : Nat) (cs : CS) (x0 : Nat) (cs9 : CS) (r9 : Nat) (h : c_X9_readSelect F n cs x0 = some (cs9, r9)) : kK cs ≤ kK cs9 ∧ kM cs ≤ kM cs9 := (mog_X9_readQuery F n).2.1 cs x0 cs9 r9 h
theorem mo_c_X9_readSources (F n : Nat) (cs : CS) (x0 : Nat) (x1 : Nat) (cs9 : CS) (h : c_X9_readSources F n cs x0 x1 = some cs9) : kK cs ≤ kK cs9 ∧ kM cs ≤ kM cs9 := (mog_X9_readQuery F n).2.2.1 cs x0 x1 cs9 h
theorem mo_c_X9_readSource (F n : Nat) (cs : CS) (x0 : Nat) (cs9 : CS) (r9 : Nat) (h : c_X9_readSource F n cs x0 = some (cs9, r9)) : kK cs ≤ kK cs9 ∧ kM cs ≤ kM cs9 := (mog_X9_readQuery F n).2.2.2 cs x0 cs9 r9 h
theorem sga_X9_readQuery (l : Launch) (dC : Nat → ClassId) (dI : Nat → Nat → Nat) (cB cI cJ cZ cS cO : ClassId) (b : Nat) (K V : Nat → Nat) (fz : Value) (F : Nat) : ∀ n : Nat, (∀ (cs : CS) (x0 : Nat) (cs9 : CS) (r9 : Nat), (tabc_X9_readQuery F n).1 cs x0 = some (cs9, r9) → oaR l dC dI cB cI cJ cZ cS cO b K V fz yX9_readQuery (wsOf yX9_readQuery cX9_readQuery 7 (some (.object "StreamQueries$Query"))) (n + 305) [.ref (b + x0)] cs cs9 r9) ∧ (∀ (cs : CS) (x0 : Nat) (cs9 : CS) (r9 : Nat), (tabc_X9_readQuery F n).2.1 cs x0 = some (cs9, r9) → oaR l dC dI cB cI cJ cZ cS cO b K V fz yX9_readSelect (wsOf yX9_readSelect cX9_readSelect 5 (some (.object "StreamQueries$Select"))) (n + 305) [.ref (b + x0)] cs cs9 r9) ∧ (∀ (cs : CS) (x0 : Nat) (x1 : Nat) (cs9 : CS), (tabc_X9_readQuery F n).2.2.1 cs x0 x1 = some cs9 → oaV l dC dI cB cI cJ cZ cS cO b K V fz yX9_readSources (wsOf yX9_readSources cX9_readSources 6 none) (n + 305) [.ref (b + x0), .ref (b + x1)] cs cs9) ∧ (∀ (cs : CS) (x0 : Nat) (cs9 : CS) (r9 : Nat), (tabc_X9_readQuery F n).2.2.2 cs x0 = some (cs9, r9) → oaR l dC dI cB cI cJ cZ cS cO b K V fz yX9_readSource (wsOf yX9_readSource cX9_readSource 2 (some (.object "StreamQueries$Source"))) (n + 305) [.ref (b + x0)] cs cs9 r9) := by
  intro n
  induction n with
  | zero => exact ⟨fun _ _ _ _ h => (by cases (show (none : Option (CS × Nat)) = _ from h)), fun _ _ _ _ h => (by cases (show (none : Option (CS × Nat)) = _ from h)), fun _ _ _ _ h => (by cases (show (none : Option CS) = _ from h)), fun _ _ _ _ h => (by cases (show (none : Option (CS × Nat)) = _ from h))⟩
  | succ n ih =>
    obtain ⟨hh0, hh1, hh2, hh3⟩ := ih
    exact ⟨fun cs w0 w1 w2 hf => sba_X9_readQuery l dC dI cB cI cJ cZ cS cO b K V fz F n (tabc_X9_readQuery F n) hh0 hh1 hh2 hh3 cs w0 w1 w2 hf, fun cs w0 w1 w2 hf => sba_X9_readSelect l dC dI cB cI cJ cZ cS cO b K V fz F n (tabc_X9_readQuery F n) hh0 hh1 hh2 hh3 cs w0 w1 w2 hf, fun cs w0 w1 w2 hf => sba_X9_readSources l dC dI cB cI cJ cZ cS cO b K V fz F n (tabc_X9_readQuery F n) hh0 hh1 hh2 hh3 cs w0 w1 w2 hf, fun cs w0 w1 w2 hf => sba_X9_readSource l dC dI cB cI cJ cZ cS cO b K V fz F n (tabc_X9_readQuery F n) hh0 hh1 hh2 hh3 cs w0 w1 w2 hf⟩
theorem sa_X9_readQuery (l : Launch) (dC : Nat → ClassId) (dI : Nat → Nat → Nat) (cB cI cJ cZ cS cO : ClassId) (b : Nat) (K V : Nat → Nat) (fz : Value) (F n : Nat) (cs : CS) (x0 : Nat) (cs9 : CS) (r9 : Nat) (hf : c_X9_readQuery F n cs x0 = some (cs9, r9)) : oaR l dC dI cB cI cJ cZ cS cO b K V fz yX9_readQuery (wsOf yX9_readQuery cX9_readQuery 7 (some (.object "StreamQueries$Query"))) (n + 305) [.ref (b + x0)] cs cs9 r9 := (sga_X9_readQuery l dC dI cB cI cJ cZ cS cO b K V fz F n).1 cs x0 cs9 r9 hf
theorem sa_X9_readSelect (l : Launch) (dC : Nat → ClassId) (dI : Nat → Nat → Nat) (cB cI cJ cZ cS cO : ClassId) (b : Nat) (K V : Nat → Nat) (fz : Value) (F n : Nat) (cs : CS) (x0 : Nat) (cs9 : CS) (r9 : Nat) (hf : c_X9_readSelect F n cs x0 = some (cs9, r9)) : oaR l dC dI cB cI cJ cZ cS cO b K V fz yX9_readSelect (wsOf yX9_readSelect cX9_readSelect 5 (some (.object "StreamQueries$Select"))) (n + 305) [.ref (b + x0)] cs cs9 r9 := (sga_X9_readQuery l dC dI cB cI cJ cZ cS cO b K V fz F n).2.1 cs x0 cs9 r9 hf
theorem sa_X9_readSources (l : Launch) (dC : Nat → ClassId) (dI : Nat → Nat → Nat) (cB cI cJ cZ cS cO : ClassId) (b : Nat) (K V : Nat → Nat) (fz : Value) (F n : Nat) (cs : CS) (x0 : Nat) (x1 : Nat) (cs9 : CS) (hf : c_X9_readSources F n cs x0 x1 = some cs9) : oaV l dC dI cB cI cJ cZ cS cO b K V fz yX9_readSources (wsOf yX9_readSources cX9_readSources 6 none) (n + 305) [.ref (b + x0), .ref (b + x1)] cs cs9 := (sga_X9_readQuery l dC dI cB cI cJ cZ cS cO b K V fz F n).2.2.1 cs x0 x1 cs9 hf
theorem sa_X9_readSource (l : Launch) (dC : Nat → ClassId) (dI : Nat → Nat → Nat) (cB cI cJ cZ cS cO : ClassId) (b : Nat) (K V : Nat → Nat) (fz : Value) (F n : Nat) (cs : CS) (x0 : Nat) (cs9 : CS) (r9 : Nat) (hf : c_X9_readSource F n cs x0 = some (cs9, r9)) : oaR l dC dI cB cI cJ cZ cS cO b K V fz yX9_readSource (wsOf yX9_readSource cX9_readSource 2 (some (.object "StreamQueries$Source"))) (n + 305) [.ref (b + x0)] cs cs9 r9 := (sga_X9_readQuery l dC dI cB cI cJ cZ cS cO b K V fz F n).2.2.2 cs x0 cs9 r9 hf
theorem dX9_read_0 : decode cX9_read 0 = .ok (.aload_n 0, 1) := by decide +kernel
theorem dX9_read_1 : decode cX9_read 1 = .ok (.aload_n 0, 1) := by decide +kernel
theorem dX9_read_2 : decode cX9_read 2 = .ok (.bipush 37, 2) := by decide +kernel
theorem dX9_read_4 : decode cX9_read 4 = .ok (.invokevirtual 48, 3) := by decide +kernel
theorem dX9_read_7 : decode cX9_read 7 = .ok (.putfield 52, 3) := by decide +kernel
theorem dX9_read_10 : decode cX9_read 10 = .ok (.aload_n 0, 1) := by decide +kernel
theorem dX9_read_11 : decode cX9_read 11 = .ok (.aload_n 0, 1) := by decide +kernel
theorem dX9_read_12 : decode cX9_read 12 = .ok (.invokevirtual 56, 3) := by decide +kernel
theorem dX9_read_15 : decode cX9_read 15 = .ok (.putfield 44, 3) := by decide +kernel
theorem dX9_read_18 : decode cX9_read 18 = .ok (.aload_n 0, 1) := by decide +kernel
theorem dX9_read_19 : decode cX9_read 19 = .ok (.bipush 56, 2) := by decide +kernel
theorem dX9_read_21 : decode cX9_read 21 = .ok (.invokevirtual 60, 3) := by decide +kernel
theorem dX9_read_24 : decode cX9_read 24 = .ok (.return_, 1) := by decide +kernel
def c_X9_read_b15 (F : Nat) (cs1 : CS) (u0 : Nat) (y0 : Nat) (y1 : Nat) : Option CS := Option.bind (pR cs1 10 323 y1 (some y0)) fun cs_1 => Option.bind (ckE cs_1 10 u0) fun _ => Option.bind (c_X9_expect F cs_1 u0 56) fun cs_2 => some cs_2
def c_X9_read (F : Nat) (cs : CS) (x0 : Nat) : Option CS := Option.bind (ckE cs 10 x0) fun _ => Option.bind (c_X9_accept F cs x0 37) fun z_4 => Option.bind (ckZ z_4.2) fun _ => Option.bind (pI z_4.1 10 324 x0 z_4.2) fun cs_6 => Option.bind (ckE cs_6 10 x0) fun _ => Option.bind (c_X9_readQuery F 300 cs_6 x0) fun z_8 => c_X9_read_b15 F z_8.1 x0 z_8.2 x0
theorem cw_X11_X9_read {R : Room} {s : State} {args : Array Value} {y0 : MethodName} {c0 : ByteArray} {n0 : Nat} {r0 : Option FieldType} (hts : ∀ w ∈ wsOf y0 c0 n0 r0, w.before args s = true) {fr mc ms : Nat} (h1 : fr + 1 ≤ R.frames) (h2 : 8 + (1 + 11) + 60 * fr ≤ R.locals) : CallW R s args RX11 RX9 79 yX9_read cX9_read 1 none (wsOf yX9_read cX9_read 1 none) ({ frames := fr, cells := mc, slots := ms, locals := 60 * fr } : Room) mc ms 0 := cwV 0 hts (gd_all (in_V kw_899 kw_900 kw_901 kw_193 kc_X9_read)) rfl rfl rfl (by decide +kernel) ⟨h1, h2⟩
theorem mo_c_X9_read_b15 (F : Nat) (cs1 : CS) (u0 : Nat) (y0 : Nat) (y1 : Nat) (cs9 : CS) (h : c_X9_read_b15 F cs1 u0 y0 y1 = some cs9) : kK cs1 ≤ kK cs9 ∧ kM cs1 ≤ kM cs9 := by
  unfold c_X9_read_b15 at h
  replace h := ob h; obtain ⟨cs_4, hv_4, h⟩ := h
  obtain ⟨qk_4, qm_4⟩ := pR_k hv_4
  replace h := ob h; obtain ⟨w_6, hw_6, h⟩ := h
  replace h := ob h; obtain ⟨cs_5, hv_5, h⟩ := h
  obtain ⟨qk_5, qm_5⟩ := k_of (mo_c_X9_expect F cs_4 u0 56 cs_5 hv_5)
  have h9 := Option.some.inj h
  have k9 := congrArg kK h9; have m9 := congrArg kM h9; exact ⟨by omega, by omega⟩
theorem mo_c_X9_read (F : Nat) (cs : CS) (x0 : Nat) (cs9 : CS) (h : c_X9_read F cs x0 = some cs9) : kK cs ≤ kK cs9 ∧ kM cs ≤ kM cs9 := by
  unfold c_X9_read at h
  replace h := ob h; obtain ⟨w_5, hw_5, h⟩ := h
  replace h := ob h; obtain ⟨z_4, hv_4, h⟩ := h
  obtain ⟨qk_4, qm_4⟩ := k_of (mo_c_X9_accept F cs x0 37 z_4.1 z_4.2 hv_4)
  replace h := ob h; obtain ⟨w_7, hw_7, h⟩ := h
  replace h := ob h; obtain ⟨cs_6, hv_6, h⟩ := h
  obtain ⟨qk_6, qm_6⟩ := pI_k hv_6
  replace h := ob h; obtain ⟨w_9, hw_9, h⟩ := h
  replace h := ob h; obtain ⟨z_8, hv_8, h⟩ := h
  obtain ⟨qk_8, qm_8⟩ := mo_c_X9_readQuery F 300 cs_6 x0 z_8.1 z_8.2 hv_8
  obtain ⟨k9, m9⟩ := mo_c_X9_read_b15 F z_8.1 x0 z_8.2 x0 cs9 h
  exact ⟨by omega, by omega⟩
set_option maxHeartbeats 4000000 in
set_option maxRecDepth 100000 in
theorem sa_X9_read (l : Launch) (dC : Nat → ClassId) (dI : Nat → Nat → Nat) (cB cI cJ cZ cS cO : ClassId) (b : Nat) (K V : Nat → Nat) (fz : Value) (F : Nat) (cs : CS) (x0 : Nat) (cs9 : CS) (hf : c_X9_read F cs x0 = some cs9) : oaV l dC dI cB cI cJ cZ cS cO b K V fz yX9_read (wsOf yX9_read cX9_read 1 none) (606) [.ref (b + x0)] cs cs9 := by
  obtain ⟨kb9, mb9⟩ := mo_c_X9_read F cs x0 cs9 hf
  refine ⟨⟨kb9, mb9⟩, ?_⟩
  refine Met.ofW (cc := cX9_read) (maxL := 1) (ret := none) (by decide) rfl ?_
  intro p e s m args below meth c s₁ B hml hv
  obtain ⟨rfl, hsz, hP, hK, hD0, hZ⟩ := hv
  have hx := B.exec
  have hb := B.bytes
  have hr := B.returns
  have hts := atoms_spec (ws := (wsOf yX9_read cX9_read 1 none)) B.pre
  have hown : s.vm.findClass RX9 = some m.cls := findClass_of_methodNamed B.named
  have hlocks := B.notSynchronized
  have hD := hD0.self (sz := b + kK cs)
  generalize hAe : va_A (cW cB cI cJ cZ cS cO b cs) (b + kK cs) = A at hD hZ ⊢
  have hA : ∀ q : Nat, s.heap.size ≤ q → A q := fun q h => by rw [← hAe]; exact Or.inr (by omega)
  have hS : va_S A s.heap s.heap [] := va_S.rf
  have hG : va_S A s.heap s.heap [] := va_S.rf
  have hgz : s.heap.size = b + kK cs := hsz
  have hl := lv_entry ([.ref (b + x0)]) (n := 1) (Nat.le_of_ble_eq_true rfl)
  rw [lg_entry_eq]
  generalize (lg_sl ([.ref (b + x0)]) ++ List.replicate (1 - (lg_sl ([.ref (b + x0)])).length) Slot.unset).toArray = ls at hl ⊢
  have hl : lv_has ls 1 [(0, .ref (b + x0))] := hl
  have B_15 : ∀ (cs1 : CS) (u0 : Nat) (y0 : Nat) (y1 : Nat), c_X9_read_b15 F cs1 u0 y0 y1 = some cs9 → kK cs ≤ kK cs1 → kM cs ≤ kM cs1 → ∀ (Gh H : Heap) (locs : List Loc) (ls : Array Slot), va_P (dC, dI) vwCl (cW cB cI cJ cZ cS cO b cs1) H → va_D A (cW cB cI cJ cZ cS cO b cs1) → va_S A s.heap Gh [] → Gh.size = b + kK cs1 → va_S A Gh H locs → lv_has ls 1 [(0, .ref (b + u0))] → W p l e (headSpec (wsOf yX9_read cX9_read 1 none) ({ frames := 606, cells := kK cs9 - kK cs, slots := kM cs9 - kM cs, locals := 60 * (606) } : Room)).room s m ([.ref (b + x0)] : List Value).toArray below meth c H locs (kK cs1 - kK cs) (kM cs1 - kM cs) (MQ below (va_Qv (fun (_ : Unit) => True) (fun _ t_ => va_P (dC, dI) vwCl (cW cB cI cJ cZ cS cO b cs9) t_.heap ∧ va_D A (cW cB cI cJ cZ cS cO b cs9) ∧ b + kK cs9 ≤ t_.heap.size) A) ([.ref (b + x0)] : List Value).toArray s (kK cs9 - kK cs) (kM cs9 - kM cs) A) (F0 m 15 ls [.ref (b + y0), .ref (b + y1)]) := by
    intro cs1 u0 y0 y1 h hmk hmm Gh H locs ls hP hD hG hgz hS hl
    obtain ⟨kb9, mb9⟩ := mo_c_X9_read_b15 F cs1 u0 y0 y1 cs9 h
    unfold c_X9_read_b15 at h
    replace h := ob h; obtain ⟨cs_1, hv_1, h⟩ := h
    obtain ⟨qk_1, qm_1⟩ := pR_k hv_1
    refine fp_X9_44 (v := (some y0)) hx hb hts hown hK hP hD hS hv_1 dX9_read_15 (fun H locs hP hD hS => ?_)
    refine lv_aload_n hx hb dX9_read_18 rfl (lv_at hl 0 rfl) ?_
    refine lv_bipush (v := 56) hx hb dX9_read_19 (by decide) ?_
    replace h := ob h; obtain ⟨w_3, hw_3, h⟩ := h
    replace h := ob h; obtain ⟨cs_2, hv_2, h⟩ := h
    obtain ⟨qk_2, qm_2⟩ := k_of (mo_c_X9_expect F cs_1 u0 56 cs_2 hv_2)
    refine cbvV (As := [.int 56]) hx hb hml hts hown hK hP hD hS hG hA (by omega) (by omega) hZ (X := 10) (by decide) rfl (ckE_some hw_3) (sc_X9_expect l dC dI cB cI cJ cZ cS cO b K V fz F cs_1 u0 56 cs_2 hv_2) (cw_X9_X9_expect hts (fr := 1) (Nat.le_of_ble_eq_true rfl) (Nat.le_of_ble_eq_true rfl)) rfl hl.1 (Nat.le_of_ble_eq_true rfl) ⟨by show kK cs1 - kK cs ≤ kK cs9 - kK cs; omega, by show kM cs1 - kM cs ≤ kM cs9 - kM cs; omega⟩ dX9_read_21 (fun H locs hP hD hG hgz hS => ?_)
    have e1 := Option.some.inj h
    rw [e1] at hP hD
    have e3 := congrArg kK e1
    have e4 := congrArg kM e1
    refine W_cnt (c2 := kK cs9 - kK cs) (n2 := kM cs9 - kM cs) (by omega) (by omega) ?_
    exact W.vret hx hb hr (fun t_ ht hW => ⟨⟨(), rfl, trivial, by rw [ht]; exact hP, hD, by rw [ht]; have := hS.1; omega⟩, (hG.comp hS).F ht⟩) (hG.comp hS).2.2 dX9_read_24
  have h := hf
  unfold c_X9_read at h
  refine W_cnt (c2 := kK cs - kK cs) (n2 := kM cs - kM cs) (by omega) (by omega) ?_
  refine lv_aload_n hx hb dX9_read_0 rfl (lv_at hl 0 rfl) ?_
  refine lv_aload_n hx hb dX9_read_1 rfl (lv_at hl 0 rfl) ?_
  refine lv_bipush (v := 37) hx hb dX9_read_2 (by decide) ?_
  replace h := ob h; obtain ⟨w_5, hw_5, h⟩ := h
  replace h := ob h; obtain ⟨z_4, hv_4, h⟩ := h
  obtain ⟨qk_4, qm_4⟩ := k_of (mo_c_X9_accept F cs x0 37 z_4.1 z_4.2 hv_4)
  refine cbvI (As := [.int 37]) hx hb hml hts hown hK hP hD hS hG hA (by omega) (by omega) hZ (X := 10) (by decide) rfl (ckE_some hw_5) (sc_X9_accept l dC dI cB cI cJ cZ cS cO b K V fz F cs x0 37 z_4.1 z_4.2 hv_4) (cw_X9_X9_accept hts (fr := 1) (Nat.le_of_ble_eq_true rfl) (Nat.le_of_ble_eq_true rfl)) rfl hl.1 (Nat.le_of_ble_eq_true rfl) ⟨by show kK cs - kK cs ≤ kK cs9 - kK cs; omega, by show kM cs - kM cs ≤ kM cs9 - kM cs; omega⟩ dX9_read_4 (fun H locs hP hD hG hgz hS => ?_)
  replace h := ob h; obtain ⟨w_7, hw_7, h⟩ := h
  replace h := ob h; obtain ⟨cs_6, hv_6, h⟩ := h
  obtain ⟨qk_6, qm_6⟩ := pI_k hv_6
  refine fp_X9_52 hx hb hts hown hK hP hD hS (ckZ_some hw_7) hv_6 dX9_read_7 (fun H locs hP hD hS => ?_)
  refine lv_aload_n hx hb dX9_read_10 rfl (lv_at hl 0 rfl) ?_
  refine lv_aload_n hx hb dX9_read_11 rfl (lv_at hl 0 rfl) ?_
  replace h := ob h; obtain ⟨w_9, hw_9, h⟩ := h
  replace h := ob h; obtain ⟨z_8, hv_8, h⟩ := h
  obtain ⟨qk_8, qm_8⟩ := mo_c_X9_readQuery F 300 cs_6 x0 z_8.1 z_8.2 hv_8
  obtain ⟨k9_8, m9_8⟩ := mo_c_X9_read_b15 F z_8.1 x0 z_8.2 x0 cs9 h
  refine cavR (As := []) hx hb hml hts hown hK hP hD hS hG hA (by omega) (by omega) hZ (X := 10) (by decide) rfl (ckE_some hw_9) (sa_X9_readQuery l dC dI cB cI cJ cZ cS cO b K V fz F 300 cs_6 x0 z_8.1 z_8.2 hv_8) (cw_X9_X9_readQuery hts (fr := 605) (Nat.le_of_ble_eq_true rfl) (Nat.le_of_ble_eq_true rfl)) rfl hl.1 (Nat.le_of_ble_eq_true rfl) ⟨by show kK cs - kK cs + (kK z_8.1 - kK cs_6) ≤ kK cs9 - kK cs; omega, by show kM cs - kM cs + (kM z_8.1 - kM cs_6) ≤ kM cs9 - kM cs; omega⟩ dX9_read_12 (fun H locs hP hD hG hgz hS => ?_)
  refine W_cnt (c2 := kK z_8.1 - kK cs) (n2 := kM z_8.1 - kM cs) (by omega) (by omega) ?_
  exact B_15 z_8.1 x0 z_8.2 x0 h (by omega) (by omega) _ _ _ _ hP hD hG (by omega) hS (lv_sub hl [0] rfl)
