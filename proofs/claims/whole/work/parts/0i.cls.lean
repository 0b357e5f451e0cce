/-! the class, mirrored -/
theorem dX9_refuse_0 : decode cX9_refuse 0 = .ok (.aload_n 0, 1) := by decide +kernel
theorem dX9_refuse_1 : decode cX9_refuse 1 = .ok (.getfield 93, 3) := by decide +kernel
theorem dX9_refuse_4 : decode cX9_refuse 4 = .ok (.ifCond .ne 13, 3) := by decide +kernel
theorem dX9_refuse_7 : decode cX9_refuse 7 = .ok (.aload_n 0, 1) := by decide +kernel
theorem dX9_refuse_8 : decode cX9_refuse 8 = .ok (.iload_n 1, 1) := by decide +kernel
theorem dX9_refuse_9 : decode cX9_refuse 9 = .ok (.putfield 93, 3) := by decide +kernel
theorem dX9_refuse_12 : decode cX9_refuse 12 = .ok (.aload_n 0, 1) := by decide +kernel
theorem dX9_refuse_13 : decode cX9_refuse 13 = .ok (.iload_n 2, 1) := by decide +kernel
theorem dX9_refuse_14 : decode cX9_refuse 14 = .ok (.putfield 96, 3) := by decide +kernel
theorem dX9_refuse_17 : decode cX9_refuse 17 = .ok (.return_, 1) := by decide +kernel
def c_X9_refuse_b17 (F : Nat) (cs1 : CS) : Option CS := some cs1
def c_X9_refuse (F : Nat) (cs : CS) (x0 : Nat) (x1 : Int32) (x2 : Int32) : Option CS := Option.bind (gI cs 10 320 x0) fun v_1 => if v_1 = 0 then (Option.bind (pI cs 10 320 x0 x1) fun cs_3 => Option.bind (pI cs_3 10 321 x0 x2) fun cs_4 => c_X9_refuse_b17 F cs_4) else (c_X9_refuse_b17 F cs)
theorem cw_X0_X9_refuse {R : Room} {s : State} {args : Array Value} {y0 : MethodName} {c0 : ByteArray} {n0 : Nat} {r0 : Option FieldType} (hts : ∀ w ∈ wsOf y0 c0 n0 r0, w.before args s = true) {fr : Nat} (h1 : fr + 1 ≤ R.frames) (h2 : 8 + (3 + 11) + 60 * fr ≤ R.locals) : CallW R s args RX0 RX9 76 yX9_refuse cX9_refuse 3 none (wsOf yX9_refuse cX9_refuse 3 none) ({ frames := fr, cells := 0, slots := 0, locals := 60 * fr } : Room) 0 0 2 := cwV 2 hts (gd_all (in_V kw_1218 kw_928 kw_929 kw_193 kc_X9_refuse)) rfl rfl rfl (by decide +kernel) ⟨h1, h2⟩
theorem cw_X9_X9_refuse {R : Room} {s : State} {args : Array Value} {y0 : MethodName} {c0 : ByteArray} {n0 : Nat} {r0 : Option FieldType} (hts : ∀ w ∈ wsOf y0 c0 n0 r0, w.before args s = true) {fr : Nat} (h1 : fr + 1 ≤ R.frames) (h2 : 8 + (3 + 11) + 60 * fr ≤ R.locals) : CallW R s args RX9 RX9 121 yX9_refuse cX9_refuse 3 none (wsOf yX9_refuse cX9_refuse 3 none) ({ frames := fr, cells := 0, slots := 0, locals := 60 * fr } : Room) 0 0 2 := cwV 2 hts (gd_all (in_V kw_927 kw_928 kw_929 kw_193 kc_X9_refuse)) rfl rfl rfl (by decide +kernel) ⟨h1, h2⟩
set_option maxHeartbeats 4000000 in
set_option maxRecDepth 100000 in
theorem sc_X9_refuse (l : Launch) (dC : Nat → ClassId) (dI : Nat → Nat → Nat) (cB cI cJ cZ cS cO : ClassId) (b : Nat) (K V : Nat → Nat) (fz : Value) (F : Nat) (cs : CS) (x0 : Nat) (x1 : Int32) (x2 : Int32) (cs9 : CS) (hf : c_X9_refuse F cs x0 x1 x2 = some cs9) : ocV l dC dI cB cI cJ cZ cS cO b K V fz yX9_refuse (wsOf yX9_refuse cX9_refuse 3 none) (0) [.ref (b + x0), .int x1, .int x2] cs cs9 := by
  intro sz
  refine Met.ofW (cc := cX9_refuse) (maxL := 3) (ret := none) (by decide) rfl ?_
  intro p e s m args below meth c s₁ B hml hv
  obtain ⟨rfl, hsz, hP, hK, hD0, hZ⟩ := hv
  have hx := B.exec
  have hb := B.bytes
  have hr := B.returns
  have hts := atoms_spec (ws := (wsOf yX9_refuse cX9_refuse 3 none)) B.pre
  have hown : s.vm.findClass RX9 = some m.cls := findClass_of_methodNamed B.named
  have hlocks := B.notSynchronized
  subst hsz
  have hD := hD0.self (sz := s.heap.size)
  generalize hAe : va_A (cW cB cI cJ cZ cS cO b cs) s.heap.size = A at hD hZ ⊢
  have hA : ∀ q : Nat, s.heap.size ≤ q → A q := fun q h => by rw [← hAe]; exact Or.inr h
  have hS : va_S A s.heap s.heap [] := va_S.rf
  have hl := lv_entry ([.ref (b + x0), .int x1, .int x2]) (n := 3) (Nat.le_of_ble_eq_true rfl)
  rw [lg_entry_eq]
  generalize (lg_sl ([.ref (b + x0), .int x1, .int x2]) ++ List.replicate (3 - (lg_sl ([.ref (b + x0), .int x1, .int x2])).length) Slot.unset).toArray = ls at hl ⊢
  have hl : lv_has ls 3 [(0, .ref (b + x0)), (1, .int x1), (2, .int x2)] := hl
  have B_17 : ∀ (cs1 : CS) , c_X9_refuse_b17 F cs1 = some cs9 → ∀ (H : Heap) (locs : List Loc) (ls : Array Slot), va_P (dC, dI) vwCl (cW cB cI cJ cZ cS cO b cs1) H → va_D A (cW cB cI cJ cZ cS cO b cs1) → va_S A s.heap H locs → lv_has ls 3 [] → W p l e (headSpec (wsOf yX9_refuse cX9_refuse 3 none) ({ frames := 0, cells := 0, slots := 0, locals := 60 * (0) } : Room)).room s m ([.ref (b + x0), .int x1, .int x2] : List Value).toArray below meth c H locs 0 0 (MQ below (va_Qv (fun (_ : Unit) => True) (fun _ t_ => va_P (dC, dI) vwCl (cW cB cI cJ cZ cS cO b cs9) t_.heap ∧ va_D A (cW cB cI cJ cZ cS cO b cs9)) A) ([.ref (b + x0), .int x1, .int x2] : List Value).toArray s 0 0 A) (F0 m 17 ls []) := by
    intro cs1  h H locs ls hP hD hS hl
    unfold c_X9_refuse_b17 at h
    have e1 := Option.some.inj h
    rw [e1] at hP hD
    exact W.vret hx hb hr (fun t_ ht hW => ⟨⟨(), rfl, trivial, by rw [ht]; exact hP, hD⟩, hS.F ht⟩) hS.2.2 dX9_refuse_17
  have h := hf
  unfold c_X9_refuse at h
  refine lv_aload_n hx hb dX9_refuse_0 rfl (lv_at hl 0 rfl) ?_
  replace h := ob h; obtain ⟨v_1, hv_1, h⟩ := h
  refine fg_X9_93 hx hb hts hown hK hP hv_1 dX9_refuse_1 ?_
  refine lv_if_ne (tgt := 17) hx hb dX9_refuse_4 (by decide) (fun c_2 => ?_) (fun c_2 => ?_)
  · skip
    replace h := (if_neg c_2).symm.trans h
    exact B_17 cs h _ _ _ hP hD hS (lv_sub hl [] rfl)
  · skip
    replace h := (if_pos c_2).symm.trans h
    refine lv_aload_n hx hb dX9_refuse_7 rfl (lv_at hl 0 rfl) ?_
    refine lv_iload_n hx hb dX9_refuse_8 rfl (lv_at hl 1 rfl) ?_
    replace h := ob h; obtain ⟨cs_3, hv_3, h⟩ := h
    refine fp_X9_93 hx hb hts hown hK hP hD hS hv_3 dX9_refuse_9 (fun H locs hP hD hS => ?_)
    refine lv_aload_n hx hb dX9_refuse_12 rfl (lv_at hl 0 rfl) ?_
    refine lv_iload_n hx hb dX9_refuse_13 rfl (lv_at hl 2 rfl) ?_
    replace h := ob h; obtain ⟨cs_4, hv_4, h⟩ := h
    refine fp_X9_96 hx hb hts hown hK hP hD hS hv_4 dX9_refuse_14 (fun H locs hP hD hS => ?_)
    exact B_17 cs_4 h _ _ _ hP hD hS (lv_sub hl [] rfl)
theorem dX9_columnType_0 : decode cX9_columnType 0 = .ok (.aload_n 0, 1) := by decide +kernel
theorem dX9_columnType_1 : decode cX9_columnType 1 = .ok (.getfield 44, 3) := by decide +kernel
theorem dX9_columnType_4 : decode cX9_columnType 4 = .ok (.getfield 63, 3) := by decide +kernel
theorem dX9_columnType_7 : decode cX9_columnType 7 = .ok (.iload_n 1, 1) := by decide +kernel
theorem dX9_columnType_8 : decode cX9_columnType 8 = .ok (.invokevirtual 67, 3) := by decide +kernel
theorem dX9_columnType_11 : decode cX9_columnType 11 = .ok (.ifCond .eq 18, 3) := by decide +kernel
theorem dX9_columnType_14 : decode cX9_columnType 14 = .ok (.aload_n 0, 1) := by decide +kernel
theorem dX9_columnType_15 : decode cX9_columnType 15 = .ok (.getfield 44, 3) := by decide +kernel
theorem dX9_columnType_18 : decode cX9_columnType 18 = .ok (.getfield 63, 3) := by decide +kernel
theorem dX9_columnType_21 : decode cX9_columnType 21 = .ok (.getfield 72, 3) := by decide +kernel
theorem dX9_columnType_24 : decode cX9_columnType 24 = .ok (.iload_n 1, 1) := by decide +kernel
theorem dX9_columnType_25 : decode cX9_columnType 25 = .ok (.iaload, 1) := by decide +kernel
theorem dX9_columnType_26 : decode cX9_columnType 26 = .ok (.goto 4, 3) := by decide +kernel
theorem dX9_columnType_29 : decode cX9_columnType 29 = .ok (.iconst 0, 1) := by decide +kernel
theorem dX9_columnType_30 : decode cX9_columnType 30 = .ok (.ireturn, 1) := by decide +kernel
def c_X9_columnType_b30 (F : Nat) (cs : CS) (y0 : Int32) : Option Int32 := some y0
def c_X9_columnType (F : Nat) (cs : CS) (x0 : Nat) (x1 : Int32) : Option Int32 := Option.bind (gR cs 10 323 x0) fun v_1 => Option.bind (v_1) fun i_2 => Option.bind (gR cs 4 129 i_2) fun v_3 => Option.bind (v_3) fun i_5 => Option.bind (ckE cs 3 i_5) fun _ => Option.bind (c_X2_has F cs i_5 x1) fun v_4 => if v_4 = 0 then (c_X9_columnType_b30 F cs 0) else (Option.bind (gR cs 10 323 x0) fun v_8 => Option.bind (v_8) fun i_9 => Option.bind (gR cs 4 129 i_9) fun v_10 => Option.bind (v_10) fun i_11 => Option.bind (gA cs 3 100 i_11) fun v_12 => Option.bind (rA cs 100 i_11 v_12 x1) fun v_13 => c_X9_columnType_b30 F cs v_13)
theorem cw_X11_X9_columnType {R : Room} {s : State} {args : Array Value} {y0 : MethodName} {c0 : ByteArray} {n0 : Nat} {r0 : Option FieldType} (hts : ∀ w ∈ wsOf y0 c0 n0 r0, w.before args s = true) {fr : Nat} (h1 : fr + 1 ≤ R.frames) (h2 : 8 + (2 + 11) + 60 * fr ≤ R.locals) : CallW R s args RX11 RX9 172 yX9_columnType cX9_columnType 2 (some .int) (wsOf yX9_columnType cX9_columnType 2 (some .int)) ({ frames := fr, cells := 0, slots := 0, locals := 60 * fr } : Room) 0 0 1 := cwV 1 hts (gd_all (in_V kw_1658 kw_1659 kw_1660 kw_193 kc_X9_columnType)) rfl rfl rfl (by decide +kernel) ⟨h1, h2⟩
set_option maxHeartbeats 4000000 in
set_option maxRecDepth 100000 in
theorem sc_X9_columnType (l : Launch) (dC : Nat → ClassId) (dI : Nat → Nat → Nat) (cB cI cJ cZ cS cO : ClassId) (b : Nat) (K V : Nat → Nat) (fz : Value) (F : Nat) (cs : CS) (x0 : Nat) (x1 : Int32) (r9 : Int32) (hf : c_X9_columnType F cs x0 x1 = some r9) : ocI l dC dI cB cI cJ cZ cS cO b K V fz yX9_columnType (wsOf yX9_columnType cX9_columnType 2 (some .int)) (1) [.ref (b + x0), .int x1] cs cs r9 := by
  intro sz
  refine Met.ofW (cc := cX9_columnType) (maxL := 2) (ret := (some .int)) (by decide) rfl ?_
  intro p e s m args below meth c s₁ B hml hv
  obtain ⟨rfl, hsz, hP, hK, hD0, hZ⟩ := hv
  have hx := B.exec
  have hb := B.bytes
  have hr := B.returns
  have hts := atoms_spec (ws := (wsOf yX9_columnType cX9_columnType 2 (some .int))) B.pre
  have hown : s.vm.findClass RX9 = some m.cls := findClass_of_methodNamed B.named
  have hlocks := B.notSynchronized
  subst hsz
  have hD := hD0.self (sz := s.heap.size)
  generalize hAe : va_A (cW cB cI cJ cZ cS cO b cs) s.heap.size = A at hD hZ ⊢
  have hA : ∀ q : Nat, s.heap.size ≤ q → A q := fun q h => by rw [← hAe]; exact Or.inr h
  have hS : va_S A s.heap s.heap [] := va_S.rf
  have hl := lv_entry ([.ref (b + x0), .int x1]) (n := 2) (Nat.le_of_ble_eq_true rfl)
  rw [lg_entry_eq]
  generalize (lg_sl ([.ref (b + x0), .int x1]) ++ List.replicate (2 - (lg_sl ([.ref (b + x0), .int x1])).length) Slot.unset).toArray = ls at hl ⊢
  have hl : lv_has ls 2 [(0, .ref (b + x0)), (1, .int x1)] := hl
  have B_30 : ∀ (y0 : Int32), c_X9_columnType_b30 F cs y0 = some r9 → ∀ (H : Heap) (locs : List Loc) (ls : Array Slot), va_P (dC, dI) vwCl (cW cB cI cJ cZ cS cO b cs) H → va_D A (cW cB cI cJ cZ cS cO b cs) → va_S A s.heap H locs → lv_has ls 2 [] → W p l e (headSpec (wsOf yX9_columnType cX9_columnType 2 (some .int)) ({ frames := 1, cells := 0, slots := 0, locals := 60 * (1) } : Room)).room s m ([.ref (b + x0), .int x1] : List Value).toArray below meth c H locs 0 0 (MQ below (va_Qi (fun (x : Int32) (_ : Unit) => x = r9) (fun _ t_ => va_P (dC, dI) vwCl (cW cB cI cJ cZ cS cO b cs) t_.heap ∧ va_D A (cW cB cI cJ cZ cS cO b cs)) A) ([.ref (b + x0), .int x1] : List Value).toArray s 0 0 A) (F0 m 30 ls [.int y0]) := by
    intro y0 h H locs ls hP hD hS hl
    unfold c_X9_columnType_b30 at h
    have e2 := Option.some.inj h
    exact W.iret (v := y0) hx hb hr (fun t_ ht hW => ⟨⟨y0, (), rfl, e2, by rw [ht]; exact hP, hD⟩, hS.F ht⟩) hS.2.2 dX9_columnType_30
  have h := hf
  unfold c_X9_columnType at h
  refine lv_aload_n hx hb dX9_columnType_0 rfl (lv_at hl 0 rfl) ?_
  replace h := ob h; obtain ⟨v_1, hv_1, h⟩ := h
  refine fg_X9_44 hx hb hts hown hK hP hv_1 dX9_columnType_1 ?_
  replace h := ob h; obtain ⟨i_2, hi_2, h⟩ := h
  subst hi_2
  replace h := ob h; obtain ⟨v_3, hv_3, h⟩ := h
  refine fg_X9_63 hx hb hts hown hK hP hv_3 dX9_columnType_4 ?_
  refine lv_iload_n hx hb dX9_columnType_7 rfl (lv_at hl 1 rfl) ?_
  replace h := ob h; obtain ⟨i_5, hi_5, h⟩ := h
  subst hi_5
  replace h := ob h; obtain ⟨w_6, hw_6, h⟩ := h
  replace h := ob h; obtain ⟨v_4, hv_4, h⟩ := h
  refine ccI (As := [.int x1]) hx hb hml hts hown hK hP hD hS hA hZ (X := 3) (by decide) rfl (ckE_some hw_6) (sc_X2_has l dC dI cB cI cJ cZ cS cO b K V fz F cs i_5 x1 v_4 hv_4) (cw_X9_X2_has hts (fr := 0) (Nat.le_of_ble_eq_true rfl) (Nat.le_of_ble_eq_true rfl)) rfl hl.1 (Nat.le_of_ble_eq_true rfl) ⟨Nat.zero_le _, Nat.zero_le _⟩ dX9_columnType_8 (fun H locs hP hD hS => ?_)
  refine lv_if_eq (tgt := 29) hx hb dX9_columnType_11 (by decide) (fun c_7 => ?_) (fun c_7 => ?_)
  · skip
    replace h := (if_pos c_7).symm.trans h
    refine lv_iconst (v := 0) hx hb dX9_columnType_29 (by decide) ?_
    exact B_30 0 h _ _ _ hP hD hS (lv_sub hl [] rfl)
  · skip
    replace h := (if_neg c_7).symm.trans h
    refine lv_aload_n hx hb dX9_columnType_14 rfl (lv_at hl 0 rfl) ?_
    replace h := ob h; obtain ⟨v_8, hv_8, h⟩ := h
    refine fg_X9_44 hx hb hts hown hK hP hv_8 dX9_columnType_15 ?_
    replace h := ob h; obtain ⟨i_9, hi_9, h⟩ := h
    subst hi_9
    replace h := ob h; obtain ⟨v_10, hv_10, h⟩ := h
    refine fg_X9_63 hx hb hts hown hK hP hv_10 dX9_columnType_18 ?_
    replace h := ob h; obtain ⟨i_11, hi_11, h⟩ := h
    subst hi_11
    replace h := ob h; obtain ⟨v_12, hv_12, h⟩ := h
    refine fg_X9_72 hx hb hts hown hK hP hv_12 dX9_columnType_21 ?_
    refine lv_iload_n hx hb dX9_columnType_24 rfl (lv_at hl 1 rfl) ?_
    replace h := ob h; obtain ⟨v_13, hv_13, h⟩ := h
    refine ald0 hx hb hK hP rfl hv_13 dX9_columnType_25 ?_
    refine lv_goto (tgt := 30) hx hb dX9_columnType_26 (by decide) ?_
    exact B_30 v_13 h _ _ _ hP hD hS (lv_sub hl [] rfl)
theorem dX9_visibleRows_0 : decode cX9_visibleRows 0 = .ok (.iconst 0, 1) := by decide +kernel
theorem dX9_visibleRows_1 : decode cX9_visibleRows 1 = .ok (.istore_n 2, 1) := by decide +kernel
theorem dX9_visibleRows_2 : decode cX9_visibleRows 2 = .ok (.iconst 0, 1) := by decide +kernel
theorem dX9_visibleRows_3 : decode cX9_visibleRows 3 = .ok (.istore_n 3, 1) := by decide +kernel
theorem dX9_visibleRows_4 : decode cX9_visibleRows 4 = .ok (.iload_n 3, 1) := by decide +kernel
theorem dX9_visibleRows_5 : decode cX9_visibleRows 5 = .ok (.aload_n 0, 1) := by decide +kernel
theorem dX9_visibleRows_6 : decode cX9_visibleRows 6 = .ok (.getfield 76, 3) := by decide +kernel
theorem dX9_visibleRows_9 : decode cX9_visibleRows 9 = .ok (.if_icmp .ge 78, 3) := by decide +kernel
theorem dX9_visibleRows_12 : decode cX9_visibleRows 12 = .ok (.iload_n 3, 1) := by decide +kernel
theorem dX9_visibleRows_13 : decode cX9_visibleRows 13 = .ok (.aload_n 0, 1) := by decide +kernel
theorem dX9_visibleRows_14 : decode cX9_visibleRows 14 = .ok (.getfield 32, 3) := by decide +kernel
theorem dX9_visibleRows_17 : decode cX9_visibleRows 17 = .ok (.arraylength, 1) := by decide +kernel
theorem dX9_visibleRows_18 : decode cX9_visibleRows 18 = .ok (.if_icmp .ge 69, 3) := by decide +kernel
theorem dX9_visibleRows_21 : decode cX9_visibleRows 21 = .ok (.iconst 0, 1) := by decide +kernel
theorem dX9_visibleRows_22 : decode cX9_visibleRows 22 = .ok (.istore 4, 2) := by decide +kernel
theorem dX9_visibleRows_24 : decode cX9_visibleRows 24 = .ok (.iload 4, 2) := by decide +kernel
theorem dX9_visibleRows_26 : decode cX9_visibleRows 26 = .ok (.bipush 8, 2) := by decide +kernel
theorem dX9_visibleRows_28 : decode cX9_visibleRows 28 = .ok (.if_icmp .ge 53, 3) := by decide +kernel
theorem dX9_visibleRows_31 : decode cX9_visibleRows 31 = .ok (.aload_n 0, 1) := by decide +kernel
theorem dX9_visibleRows_32 : decode cX9_visibleRows 32 = .ok (.getfield 32, 3) := by decide +kernel
theorem dX9_visibleRows_35 : decode cX9_visibleRows 35 = .ok (.iload_n 3, 1) := by decide +kernel
theorem dX9_visibleRows_36 : decode cX9_visibleRows 36 = .ok (.aaload, 1) := by decide +kernel
theorem dX9_visibleRows_37 : decode cX9_visibleRows 37 = .ok (.ifnull 44, 3) := by decide +kernel
theorem dX9_visibleRows_40 : decode cX9_visibleRows 40 = .ok (.iload_n 2, 1) := by decide +kernel
theorem dX9_visibleRows_41 : decode cX9_visibleRows 41 = .ok (.aload_n 1, 1) := by decide +kernel
theorem dX9_visibleRows_42 : decode cX9_visibleRows 42 = .ok (.aload_n 0, 1) := by decide +kernel
theorem dX9_visibleRows_43 : decode cX9_visibleRows 43 = .ok (.getfield 32, 3) := by decide +kernel
theorem dX9_visibleRows_46 : decode cX9_visibleRows 46 = .ok (.iload_n 3, 1) := by decide +kernel
theorem dX9_visibleRows_47 : decode cX9_visibleRows 47 = .ok (.aaload, 1) := by decide +kernel
theorem dX9_visibleRows_48 : decode cX9_visibleRows 48 = .ok (.getfield 80, 3) := by decide +kernel
theorem dX9_visibleRows_51 : decode cX9_visibleRows 51 = .ok (.iload 4, 2) := by decide +kernel
theorem dX9_visibleRows_53 : decode cX9_visibleRows 53 = .ok (.aload_n 0, 1) := by decide +kernel
theorem dX9_visibleRows_54 : decode cX9_visibleRows 54 = .ok (.getfield 32, 3) := by decide +kernel
theorem dX9_visibleRows_57 : decode cX9_visibleRows 57 = .ok (.iload_n 3, 1) := by decide +kernel
theorem dX9_visibleRows_58 : decode cX9_visibleRows 58 = .ok (.aaload, 1) := by decide +kernel
theorem dX9_visibleRows_59 : decode cX9_visibleRows 59 = .ok (.getfield 83, 3) := by decide +kernel
theorem dX9_visibleRows_62 : decode cX9_visibleRows 62 = .ok (.invokevirtual 87, 3) := by decide +kernel
theorem dX9_visibleRows_65 : decode cX9_visibleRows 65 = .ok (.ifCond .eq 7, 3) := by decide +kernel
theorem dX9_visibleRows_68 : decode cX9_visibleRows 68 = .ok (.iconst 1, 1) := by decide +kernel
theorem dX9_visibleRows_69 : decode cX9_visibleRows 69 = .ok (.goto 4, 3) := by decide +kernel
theorem dX9_visibleRows_72 : decode cX9_visibleRows 72 = .ok (.iconst 0, 1) := by decide +kernel
theorem dX9_visibleRows_73 : decode cX9_visibleRows 73 = .ok (.iadd, 1) := by decide +kernel
theorem dX9_visibleRows_74 : decode cX9_visibleRows 74 = .ok (.istore_n 2, 1) := by decide +kernel
theorem dX9_visibleRows_75 : decode cX9_visibleRows 75 = .ok (.iinc 4 1, 3) := by decide +kernel
theorem dX9_visibleRows_78 : decode cX9_visibleRows 78 = .ok (.goto (-54), 3) := by decide +kernel
theorem dX9_visibleRows_81 : decode cX9_visibleRows 81 = .ok (.iinc 3 1, 3) := by decide +kernel
theorem dX9_visibleRows_84 : decode cX9_visibleRows 84 = .ok (.goto (-80), 3) := by decide +kernel
theorem dX9_visibleRows_87 : decode cX9_visibleRows 87 = .ok (.iload_n 2, 1) := by decide +kernel
theorem dX9_visibleRows_88 : decode cX9_visibleRows 88 = .ok (.ireturn, 1) := by decide +kernel
def c_X9_visibleRows_b87 (F : Nat) (cs : CS) (u2 : Int32) : Option Int32 := some u2
def c_X9_visibleRows_b81 (F : Nat) (cs : CS) (rc4 : Nat → Nat → Int32 → Int32 → Option Int32) (u0 : Nat) (u1 : Nat) (u2 : Int32) (u3 : Int32) : Option Int32 := rc4 u0 u1 u2 (u3 + 1)
def c_X9_visibleRows_b73 (F : Nat) (cs : CS) (rc4 : Nat → Nat → Int32 → Int32 → Option Int32) (rc24 : Nat → Nat → Int32 → Int32 → Int32 → Option Int32) (u0 : Nat) (u1 : Nat) (u3 : Int32) (u4 : Int32) (y0 : Int32) (y1 : Int32) : Option Int32 := rc24 u0 u1 (y1 + y0) u3 (u4 + 1)
def c_X9_visibleRows_L24 (F : Nat) (cs : CS) (rc4 : Nat → Nat → Int32 → Int32 → Option Int32) : Nat → Nat → Nat → Int32 → Int32 → Int32 → Option Int32
  | 0, _, _, _, _, _ => none
  | lf_24 + 1, u0, u1, u2, u3, u4 => if 8 ≤ u4 then (c_X9_visibleRows_b81 F cs rc4 u0 u1 u2 u3) else (Option.bind (gA cs 10 326 u0) fun v_2 => Option.bind (rQ cs 326 u0 v_2 u3) fun v_3 => oc v_3 (c_X9_visibleRows_b81 F cs rc4 u0 u1 u2 u3) (fun i_4 => Option.bind (gA cs 10 326 u0) fun v_5 => Option.bind (rQ cs 326 u0 v_5 u3) fun v_6 => Option.bind (v_6) fun i_7 => Option.bind (gI cs 7 224 i_7) fun v_8 => Option.bind (gA cs 10 326 u0) fun v_9 => Option.bind (rQ cs 326 u0 v_9 u3) fun v_10 => Option.bind (v_10) fun i_11 => Option.bind (gJ cs 7 230 i_11) fun v_12 => Option.bind (ckE cs 8 u1) fun _ => Option.bind (c_X7_shows F cs u1 v_8 u4 v_12) fun v_13 => if v_13 = 0 then (c_X9_visibleRows_b73 F cs rc4 (c_X9_visibleRows_L24 F cs rc4 lf_24) u0 u1 u3 u4 0 u2) else (c_X9_visibleRows_b73 F cs rc4 (c_X9_visibleRows_L24 F cs rc4 lf_24) u0 u1 u3 u4 1 u2)))
def c_X9_visibleRows_L4 (F : Nat) (cs : CS) : Nat → Nat → Nat → Int32 → Int32 → Option Int32
  | 0, _, _, _, _ => none
  | lf_4 + 1, u0, u1, u2, u3 => Option.bind (gI cs 10 325 u0) fun v_16 => if v_16 ≤ u3 then (c_X9_visibleRows_b87 F cs u2) else (Option.bind (gA cs 10 326 u0) fun v_18 => Option.bind (lnA cs 326 u0 v_18) fun v_19 => if v_19 ≤ u3 then (c_X9_visibleRows_b87 F cs u2) else (c_X9_visibleRows_L24 F cs (c_X9_visibleRows_L4 F cs lf_4) F u0 u1 u2 u3 0))
def c_X9_visibleRows (F : Nat) (cs : CS) (x0 : Nat) (x1 : Nat) : Option Int32 := c_X9_visibleRows_L4 F cs F x0 x1 0 0
theorem cw_X11_X9_visibleRows {R : Room} {s : State} {args : Array Value} {y0 : MethodName} {c0 : ByteArray} {n0 : Nat} {r0 : Option FieldType} (hts : ∀ w ∈ wsOf y0 c0 n0 r0, w.before args s = true) {fr : Nat} (h1 : fr + 1 ≤ R.frames) (h2 : 8 + (5 + 11) + 60 * fr ≤ R.locals) : CallW R s args RX11 RX9 185 yX9_visibleRows cX9_visibleRows 5 (some .int) (wsOf yX9_visibleRows cX9_visibleRows 5 (some .int)) ({ frames := fr, cells := 0, slots := 0, locals := 60 * fr } : Room) 0 0 1 := cwV 1 hts (gd_all (in_V kw_1681 kw_1682 kw_1683 kw_193 kc_X9_visibleRows)) rfl rfl rfl (by decide +kernel) ⟨h1, h2⟩
set_option maxHeartbeats 4000000 in
set_option maxRecDepth 100000 in
theorem sc_X9_visibleRows (l : Launch) (dC : Nat → ClassId) (dI : Nat → Nat → Nat) (cB cI cJ cZ cS cO : ClassId) (b : Nat) (K V : Nat → Nat) (fz : Value) (F : Nat) (cs : CS) (x0 : Nat) (x1 : Nat) (r9 : Int32) (hf : c_X9_visibleRows F cs x0 x1 = some r9) : ocI l dC dI cB cI cJ cZ cS cO b K V fz yX9_visibleRows (wsOf yX9_visibleRows cX9_visibleRows 5 (some .int)) (3) [.ref (b + x0), .ref (b + x1)] cs cs r9 := by
  intro sz
  refine Met.ofW (cc := cX9_visibleRows) (maxL := 5) (ret := (some .int)) (by decide) rfl ?_
  intro p e s m args below meth c s₁ B hml hv
  obtain ⟨rfl, hsz, hP, hK, hD0, hZ⟩ := hv
  have hx := B.exec
  have hb := B.bytes
  have hr := B.returns
  have hts := atoms_spec (ws := (wsOf yX9_visibleRows cX9_visibleRows 5 (some .int))) B.pre
  have hown : s.vm.findClass RX9 = some m.cls := findClass_of_methodNamed B.named
  have hlocks := B.notSynchronized
  subst hsz
  have hD := hD0.self (sz := s.heap.size)
  generalize hAe : va_A (cW cB cI cJ cZ cS cO b cs) s.heap.size = A at hD hZ ⊢
  have hA : ∀ q : Nat, s.heap.size ≤ q → A q := fun q h => by rw [← hAe]; exact Or.inr h
  have hS : va_S A s.heap s.heap [] := va_S.rf
  have hl := lv_entry ([.ref (b + x0), .ref (b + x1)]) (n := 5) (Nat.le_of_ble_eq_true rfl)
  rw [lg_entry_eq]
  generalize (lg_sl ([.ref (b + x0), .ref (b + x1)]) ++ List.replicate (5 - (lg_sl ([.ref (b + x0), .ref (b + x1)])).length) Slot.unset).toArray = ls at hl ⊢
  have hl : lv_has ls 5 [(0, .ref (b + x0)), (1, .ref (b + x1))] := hl
  have B_87 : ∀ (u2 : Int32), c_X9_visibleRows_b87 F cs u2 = some r9 → ∀ (H : Heap) (locs : List Loc) (ls : Array Slot), va_P (dC, dI) vwCl (cW cB cI cJ cZ cS cO b cs) H → va_D A (cW cB cI cJ cZ cS cO b cs) → va_S A s.heap H locs → lv_has ls 5 [(2, .int u2)] → W p l e (headSpec (wsOf yX9_visibleRows cX9_visibleRows 5 (some .int)) ({ frames := 3, cells := 0, slots := 0, locals := 60 * (3) } : Room)).room s m ([.ref (b + x0), .ref (b + x1)] : List Value).toArray below meth c H locs 0 0 (MQ below (va_Qi (fun (x : Int32) (_ : Unit) => x = r9) (fun _ t_ => va_P (dC, dI) vwCl (cW cB cI cJ cZ cS cO b cs) t_.heap ∧ va_D A (cW cB cI cJ cZ cS cO b cs)) A) ([.ref (b + x0), .ref (b + x1)] : List Value).toArray s 0 0 A) (F0 m 87 ls []) := by
    intro u2 h H locs ls hP hD hS hl
    unfold c_X9_visibleRows_b87 at h
    refine lv_iload_n hx hb dX9_visibleRows_87 rfl (lv_at hl 0 rfl) ?_
    have e2 := Option.some.inj h
    exact W.iret (v := u2) hx hb hr (fun t_ ht hW => ⟨⟨u2, (), rfl, e2, by rw [ht]; exact hP, hD⟩, hS.F ht⟩) hS.2.2 dX9_visibleRows_88
  have L_4 : ∀ (lf_4 : Nat), ∀ (u0 : Nat) (u1 : Nat) (u2 : Int32) (u3 : Int32), c_X9_visibleRows_L4 F cs lf_4 u0 u1 u2 u3 = some r9 → ∀ (H : Heap) (locs : List Loc) (ls : Array Slot), va_P (dC, dI) vwCl (cW cB cI cJ cZ cS cO b cs) H → va_D A (cW cB cI cJ cZ cS cO b cs) → va_S A s.heap H locs → lv_has ls 5 [(0, .ref (b + u0)), (1, .ref (b + u1)), (2, .int u2), (3, .int u3)] → W p l e (headSpec (wsOf yX9_visibleRows cX9_visibleRows 5 (some .int)) ({ frames := 3, cells := 0, slots := 0, locals := 60 * (3) } : Room)).room s m ([.ref (b + x0), .ref (b + x1)] : List Value).toArray below meth c H locs 0 0 (MQ below (va_Qi (fun (x : Int32) (_ : Unit) => x = r9) (fun _ t_ => va_P (dC, dI) vwCl (cW cB cI cJ cZ cS cO b cs) t_.heap ∧ va_D A (cW cB cI cJ cZ cS cO b cs)) A) ([.ref (b + x0), .ref (b + x1)] : List Value).toArray s 0 0 A) (F0 m 4 ls []) := by
    intro lf_4
    induction lf_4 with
    | zero => intro u0 u1 u2 u3 h; cases (show (none : Option Int32) = _ from h)
    | succ lf_4 ih_4 =>
      have B_81 : ∀ (u0 : Nat) (u1 : Nat) (u2 : Int32) (u3 : Int32), c_X9_visibleRows_b81 F cs (c_X9_visibleRows_L4 F cs lf_4) u0 u1 u2 u3 = some r9 → ∀ (H : Heap) (locs : List Loc) (ls : Array Slot), va_P (dC, dI) vwCl (cW cB cI cJ cZ cS cO b cs) H → va_D A (cW cB cI cJ cZ cS cO b cs) → va_S A s.heap H locs → lv_has ls 5 [(0, .ref (b + u0)), (1, .ref (b + u1)), (2, .int u2), (3, .int u3)] → W p l e (headSpec (wsOf yX9_visibleRows cX9_visibleRows 5 (some .int)) ({ frames := 3, cells := 0, slots := 0, locals := 60 * (3) } : Room)).room s m ([.ref (b + x0), .ref (b + x1)] : List Value).toArray below meth c H locs 0 0 (MQ below (va_Qi (fun (x : Int32) (_ : Unit) => x = r9) (fun _ t_ => va_P (dC, dI) vwCl (cW cB cI cJ cZ cS cO b cs) t_.heap ∧ va_D A (cW cB cI cJ cZ cS cO b cs)) A) ([.ref (b + x0), .ref (b + x1)] : List Value).toArray s 0 0 A) (F0 m 81 ls []) := by
        intro u0 u1 u2 u3 h H locs ls hP hD hS hl
        unfold c_X9_visibleRows_b81 at h
        refine lv_iinc (v := u3 + 1) (lv' := [(3, .int (u3 + 1)), (0, .ref (b + u0)), (1, .ref (b + u1)), (2, .int u2)]) hx hb dX9_visibleRows_81 hl (k := 3) rfl rfl (by decide) rfl (fun ls hl => ?_)
        refine lv_goto (tgt := 4) hx hb dX9_visibleRows_84 (by decide) ?_
        exact ih_4 u0 u1 u2 (u3 + 1) h _ _ _ hP hD hS (lv_sub hl [1, 2, 3, 0] rfl)
      have L_24 : ∀ (lf_24 : Nat), ∀ (u0 : Nat) (u1 : Nat) (u2 : Int32) (u3 : Int32) (u4 : Int32), c_X9_visibleRows_L24 F cs (c_X9_visibleRows_L4 F cs lf_4) lf_24 u0 u1 u2 u3 u4 = some r9 → ∀ (H : Heap) (locs : List Loc) (ls : Array Slot), va_P (dC, dI) vwCl (cW cB cI cJ cZ cS cO b cs) H → va_D A (cW cB cI cJ cZ cS cO b cs) → va_S A s.heap H locs → lv_has ls 5 [(0, .ref (b + u0)), (1, .ref (b + u1)), (2, .int u2), (3, .int u3), (4, .int u4)] → W p l e (headSpec (wsOf yX9_visibleRows cX9_visibleRows 5 (some .int)) ({ frames := 3, cells := 0, slots := 0, locals := 60 * (3) } : Room)).room s m ([.ref (b + x0), .ref (b + x1)] : List Value).toArray below meth c H locs 0 0 (MQ below (va_Qi (fun (x : Int32) (_ : Unit) => x = r9) (fun _ t_ => va_P (dC, dI) vwCl (cW cB cI cJ cZ cS cO b cs) t_.heap ∧ va_D A (cW cB cI cJ cZ cS cO b cs)) A) ([.ref (b + x0), .ref (b + x1)] : List Value).toArray s 0 0 A) (F0 m 24 ls []) := by
        intro lf_24
        induction lf_24 with
        | zero => intro u0 u1 u2 u3 u4 h; cases (show (none : Option Int32) = _ from h)
        | succ lf_24 ih_24 =>
          have B_73 : ∀ (u0 : Nat) (u1 : Nat) (u3 : Int32) (u4 : Int32) (y0 : Int32) (y1 : Int32), c_X9_visibleRows_b73 F cs (c_X9_visibleRows_L4 F cs lf_4) (c_X9_visibleRows_L24 F cs (c_X9_visibleRows_L4 F cs lf_4) lf_24) u0 u1 u3 u4 y0 y1 = some r9 → ∀ (H : Heap) (locs : List Loc) (ls : Array Slot), va_P (dC, dI) vwCl (cW cB cI cJ cZ cS cO b cs) H → va_D A (cW cB cI cJ cZ cS cO b cs) → va_S A s.heap H locs → lv_has ls 5 [(0, .ref (b + u0)), (1, .ref (b + u1)), (3, .int u3), (4, .int u4)] → W p l e (headSpec (wsOf yX9_visibleRows cX9_visibleRows 5 (some .int)) ({ frames := 3, cells := 0, slots := 0, locals := 60 * (3) } : Room)).room s m ([.ref (b + x0), .ref (b + x1)] : List Value).toArray below meth c H locs 0 0 (MQ below (va_Qi (fun (x : Int32) (_ : Unit) => x = r9) (fun _ t_ => va_P (dC, dI) vwCl (cW cB cI cJ cZ cS cO b cs) t_.heap ∧ va_D A (cW cB cI cJ cZ cS cO b cs)) A) ([.ref (b + x0), .ref (b + x1)] : List Value).toArray s 0 0 A) (F0 m 73 ls [.int y0, .int y1]) := by
            intro u0 u1 u3 u4 y0 y1 h H locs ls hP hD hS hl
            unfold c_X9_visibleRows_b73 at h
            refine lv_iadd hx hb dX9_visibleRows_73 ?_
            refine lv_istore_n (lv' := [(2, .int (y1 + y0)), (0, .ref (b + u0)), (1, .ref (b + u1)), (3, .int u3), (4, .int u4)]) hx hb dX9_visibleRows_74 rfl hl (by decide) rfl (fun ls hl => ?_)
            refine lv_iinc (v := u4 + 1) (lv' := [(4, .int (u4 + 1)), (2, .int (y1 + y0)), (0, .ref (b + u0)), (1, .ref (b + u1)), (3, .int u3)]) hx hb dX9_visibleRows_75 hl (k := 4) rfl rfl (by decide) rfl (fun ls hl => ?_)
            refine lv_goto (tgt := 24) hx hb dX9_visibleRows_78 (by decide) ?_
            exact ih_24 u0 u1 (y1 + y0) u3 (u4 + 1) h _ _ _ hP hD hS (lv_sub hl [2, 3, 1, 4, 0] rfl)
          intro u0 u1 u2 u3 u4 h H locs ls hP hD hS hl
          rw [c_X9_visibleRows_L24] at h
          refine lv_iload hx hb dX9_visibleRows_24 (lv_at hl 4 rfl) ?_
          refine lv_bipush (v := 8) hx hb dX9_visibleRows_26 (by decide) ?_
          refine lv_icmp_ge (tgt := 81) hx hb dX9_visibleRows_28 (by decide) (fun c_1 => ?_) (fun c_1 => ?_)
          · skip
            replace h := (if_pos c_1).symm.trans h
            exact B_81 u0 u1 u2 u3 h _ _ _ hP hD hS (lv_sub hl [0, 1, 2, 3] rfl)
          · skip
            replace h := (if_neg c_1).symm.trans h
            refine lv_aload_n hx hb dX9_visibleRows_31 rfl (lv_at hl 0 rfl) ?_
            replace h := ob h; obtain ⟨v_2, hv_2, h⟩ := h
            refine fg_X9_32 hx hb hts hown hK hP hv_2 dX9_visibleRows_32 ?_
            refine lv_iload_n hx hb dX9_visibleRows_35 rfl (lv_at hl 3 rfl) ?_
            replace h := ob h; obtain ⟨v_3, hv_3, h⟩ := h
            refine aldQ hx hb hK hP rfl hv_3 dX9_visibleRows_36 ?_
            cases v_3 with
            | none =>
              replace h := oc_n.symm.trans h
              refine lv_ifnullN (tgt := 81) hx hb dX9_visibleRows_37 (by decide) ?_
              exact B_81 u0 u1 u2 u3 h _ _ _ hP hD hS (lv_sub hl [0, 1, 2, 3] rfl)
            | some i_4 =>
              replace h := oc_s.symm.trans h
              refine lv_ifnull hx hb dX9_visibleRows_37 ?_
              refine lv_iload_n hx hb dX9_visibleRows_40 rfl (lv_at hl 2 rfl) ?_
              refine lv_aload_n hx hb dX9_visibleRows_41 rfl (lv_at hl 1 rfl) ?_
              refine lv_aload_n hx hb dX9_visibleRows_42 rfl (lv_at hl 0 rfl) ?_
              replace h := ob h; obtain ⟨v_5, hv_5, h⟩ := h
              refine fg_X9_32 hx hb hts hown hK hP hv_5 dX9_visibleRows_43 ?_
              refine lv_iload_n hx hb dX9_visibleRows_46 rfl (lv_at hl 3 rfl) ?_
              replace h := ob h; obtain ⟨v_6, hv_6, h⟩ := h
              refine aldQ hx hb hK hP rfl hv_6 dX9_visibleRows_47 ?_
              replace h := ob h; obtain ⟨i_7, hi_7, h⟩ := h
              subst hi_7
              replace h := ob h; obtain ⟨v_8, hv_8, h⟩ := h
              refine fg_X9_80 hx hb hts hown hK hP hv_8 dX9_visibleRows_48 ?_
              refine lv_iload hx hb dX9_visibleRows_51 (lv_at hl 4 rfl) ?_
              refine lv_aload_n hx hb dX9_visibleRows_53 rfl (lv_at hl 0 rfl) ?_
              replace h := ob h; obtain ⟨v_9, hv_9, h⟩ := h
              refine fg_X9_32 hx hb hts hown hK hP hv_9 dX9_visibleRows_54 ?_
              refine lv_iload_n hx hb dX9_visibleRows_57 rfl (lv_at hl 3 rfl) ?_
              replace h := ob h; obtain ⟨v_10, hv_10, h⟩ := h
              refine aldQ hx hb hK hP rfl hv_10 dX9_visibleRows_58 ?_
              replace h := ob h; obtain ⟨i_11, hi_11, h⟩ := h
              subst hi_11
              replace h := ob h; obtain ⟨v_12, hv_12, h⟩ := h
              refine fg_X9_83 hx hb hts hown hK hP hv_12 dX9_visibleRows_59 ?_
              replace h := ob h; obtain ⟨w_14, hw_14, h⟩ := h
              replace h := ob h; obtain ⟨v_13, hv_13, h⟩ := h
              refine ccI (As := [.int v_8, .int u4, .long v_12]) hx hb hml hts hown hK hP hD hS hA hZ (X := 8) (by decide) rfl (ckE_some hw_14) (sc_X7_shows l dC dI cB cI cJ cZ cS cO b K V fz F cs u1 v_8 u4 v_12 v_13 hv_13) (cw_X9_X7_shows hts (fr := 2) (Nat.le_of_ble_eq_true rfl) (Nat.le_of_ble_eq_true rfl)) rfl hl.1 (Nat.le_of_ble_eq_true rfl) ⟨Nat.zero_le _, Nat.zero_le _⟩ dX9_visibleRows_62 (fun H locs hP hD hS => ?_)
              refine lv_if_eq (tgt := 72) hx hb dX9_visibleRows_65 (by decide) (fun c_15 => ?_) (fun c_15 => ?_)
              · skip
                replace h := (if_pos c_15).symm.trans h
                refine lv_iconst (v := 0) hx hb dX9_visibleRows_72 (by decide) ?_
                exact B_73 u0 u1 u3 u4 0 u2 h _ _ _ hP hD hS (lv_sub hl [0, 1, 3, 4] rfl)
              · skip
                replace h := (if_neg c_15).symm.trans h
                refine lv_iconst (v := 1) hx hb dX9_visibleRows_68 (by decide) ?_
                refine lv_goto (tgt := 73) hx hb dX9_visibleRows_69 (by decide) ?_
                exact B_73 u0 u1 u3 u4 1 u2 h _ _ _ hP hD hS (lv_sub hl [0, 1, 3, 4] rfl)
      intro u0 u1 u2 u3 h H locs ls hP hD hS hl
      rw [c_X9_visibleRows_L4] at h
      refine lv_iload_n hx hb dX9_visibleRows_4 rfl (lv_at hl 3 rfl) ?_
      refine lv_aload_n hx hb dX9_visibleRows_5 rfl (lv_at hl 0 rfl) ?_
      replace h := ob h; obtain ⟨v_16, hv_16, h⟩ := h
      refine fg_X9_76 hx hb hts hown hK hP hv_16 dX9_visibleRows_6 ?_
      refine lv_icmp_ge (tgt := 87) hx hb dX9_visibleRows_9 (by decide) (fun c_17 => ?_) (fun c_17 => ?_)
      · skip
        replace h := (if_pos c_17).symm.trans h
        exact B_87 u2 h _ _ _ hP hD hS (lv_sub hl [2] rfl)
      · skip
        replace h := (if_neg c_17).symm.trans h
        refine lv_iload_n hx hb dX9_visibleRows_12 rfl (lv_at hl 3 rfl) ?_
        refine lv_aload_n hx hb dX9_visibleRows_13 rfl (lv_at hl 0 rfl) ?_
        replace h := ob h; obtain ⟨v_18, hv_18, h⟩ := h
        refine fg_X9_32 hx hb hts hown hK hP hv_18 dX9_visibleRows_14 ?_
        replace h := ob h; obtain ⟨v_19, hv_19, h⟩ := h
        refine alen3 hx hb hK hP rfl hv_19 dX9_visibleRows_17 ?_
        refine lv_icmp_ge (tgt := 87) hx hb dX9_visibleRows_18 (by decide) (fun c_20 => ?_) (fun c_20 => ?_)
        · skip
          replace h := (if_pos c_20).symm.trans h
          exact B_87 u2 h _ _ _ hP hD hS (lv_sub hl [2] rfl)
        · skip
          replace h := (if_neg c_20).symm.trans h
          refine lv_iconst (v := 0) hx hb dX9_visibleRows_21 (by decide) ?_
          refine lv_istore (lv' := [(4, .int 0), (0, .ref (b + u0)), (1, .ref (b + u1)), (2, .int u2), (3, .int u3)]) hx hb dX9_visibleRows_22 hl (by decide) rfl (fun ls hl => ?_)
          exact L_24 F u0 u1 u2 u3 0 h _ _ _ hP hD hS (lv_sub hl [1, 2, 3, 4, 0] rfl)
  have h := hf
  unfold c_X9_visibleRows at h
  refine lv_iconst (v := 0) hx hb dX9_visibleRows_0 (by decide) ?_
  refine lv_istore_n (lv' := [(2, .int 0), (0, .ref (b + x0)), (1, .ref (b + x1))]) hx hb dX9_visibleRows_1 rfl hl (by decide) rfl (fun ls hl => ?_)
  refine lv_iconst (v := 0) hx hb dX9_visibleRows_2 (by decide) ?_
  refine lv_istore_n (lv' := [(3, .int 0), (2, .int 0), (0, .ref (b + x0)), (1, .ref (b + x1))]) hx hb dX9_visibleRows_3 rfl hl (by decide) rfl (fun ls hl => ?_)
  exact L_4 F x0 x1 0 0 h _ _ _ hP hD hS (lv_sub hl [2, 3, 1, 0] rfl)
theorem dX9_kind_0 : decode cX9_kind 0 = .ok (.aload_n 0, 1) := by decide +kernel
theorem dX9_kind_1 : decode cX9_kind 1 = .ok (.getfield 93, 3) := by decide +kernel
theorem dX9_kind_4 : decode cX9_kind 4 = .ok (.ifCond .ne 18, 3) := by decide +kernel
theorem dX9_kind_7 : decode cX9_kind 7 = .ok (.aload_n 0, 1) := by decide +kernel
theorem dX9_kind_8 : decode cX9_kind 8 = .ok (.getfield 99, 3) := by decide +kernel
theorem dX9_kind_11 : decode cX9_kind 11 = .ok (.aload_n 0, 1) := by decide +kernel
theorem dX9_kind_12 : decode cX9_kind 12 = .ok (.getfield 9, 3) := by decide +kernel
theorem dX9_kind_15 : decode cX9_kind 15 = .ok (.getfield 102, 3) := by decide +kernel
theorem dX9_kind_18 : decode cX9_kind 18 = .ok (.arraylength, 1) := by decide +kernel
theorem dX9_kind_19 : decode cX9_kind 19 = .ok (.if_icmp .lt 8, 3) := by decide +kernel
theorem dX9_kind_22 : decode cX9_kind 22 = .ok (.bipush 57, 2) := by decide +kernel
theorem dX9_kind_24 : decode cX9_kind 24 = .ok (.goto 15, 3) := by decide +kernel
theorem dX9_kind_27 : decode cX9_kind 27 = .ok (.aload_n 0, 1) := by decide +kernel
theorem dX9_kind_28 : decode cX9_kind 28 = .ok (.getfield 9, 3) := by decide +kernel
theorem dX9_kind_31 : decode cX9_kind 31 = .ok (.getfield 102, 3) := by decide +kernel
theorem dX9_kind_34 : decode cX9_kind 34 = .ok (.aload_n 0, 1) := by decide +kernel
theorem dX9_kind_35 : decode cX9_kind 35 = .ok (.getfield 99, 3) := by decide +kernel
theorem dX9_kind_38 : decode cX9_kind 38 = .ok (.iaload, 1) := by decide +kernel
theorem dX9_kind_39 : decode cX9_kind 39 = .ok (.ireturn, 1) := by decide +kernel
def c_X9_kind_b39 (F : Nat) (cs : CS) (y0 : Int32) : Option Int32 := some y0
def c_X9_kind_b22 (F : Nat) (cs : CS) : Option Int32 := c_X9_kind_b39 F cs 57
def c_X9_kind (F : Nat) (cs : CS) (x0 : Nat) : Option Int32 := Option.bind (gI cs 10 320 x0) fun v_1 => if v_1 = 0 then (Option.bind (gI cs 10 328 x0) fun v_3 => Option.bind (gR cs 10 327 x0) fun v_4 => Option.bind (v_4) fun i_5 => Option.bind (gA cs 11 352 i_5) fun v_6 => Option.bind (lnA cs 352 i_5 v_6) fun v_7 => if v_3 < v_7 then (Option.bind (gR cs 10 327 x0) fun v_9 => Option.bind (v_9) fun i_10 => Option.bind (gA cs 11 352 i_10) fun v_11 => Option.bind (gI cs 10 328 x0) fun v_12 => Option.bind (rA cs 352 i_10 v_11 v_12) fun v_13 => c_X9_kind_b39 F cs v_13) else (c_X9_kind_b22 F cs )) else (c_X9_kind_b22 F cs )
theorem cw_X9_X9_kind {R : Room} {s : State} {args : Array Value} {y0 : MethodName} {c0 : ByteArray} {n0 : Nat} {r0 : Option FieldType} (hts : ∀ w ∈ wsOf y0 c0 n0 r0, w.before args s = true) {fr : Nat} (h1 : fr + 1 ≤ R.frames) (h2 : 8 + (1 + 11) + 60 * fr ≤ R.locals) : CallW R s args RX9 RX9 114 yX9_kind cX9_kind 1 (some .int) (wsOf yX9_kind cX9_kind 1 (some .int)) ({ frames := fr, cells := 0, slots := 0, locals := 60 * fr } : Room) 0 0 0 := cwV 0 hts (gd_all (in_V kw_907 kw_909 kw_12 kw_193 kc_X9_kind)) rfl rfl rfl (by decide +kernel) ⟨h1, h2⟩
set_option maxHeartbeats 4000000 in
set_option maxRecDepth 100000 in
theorem sc_X9_kind (l : Launch) (dC : Nat → ClassId) (dI : Nat → Nat → Nat) (cB cI cJ cZ cS cO : ClassId) (b : Nat) (K V : Nat → Nat) (fz : Value) (F : Nat) (cs : CS) (x0 : Nat) (r9 : Int32) (hf : c_X9_kind F cs x0 = some r9) : ocI l dC dI cB cI cJ cZ cS cO b K V fz yX9_kind (wsOf yX9_kind cX9_kind 1 (some .int)) (0) [.ref (b + x0)] cs cs r9 := by
  intro sz
  refine Met.ofW (cc := cX9_kind) (maxL := 1) (ret := (some .int)) (by decide) rfl ?_
  intro p e s m args below meth c s₁ B hml hv
  obtain ⟨rfl, hsz, hP, hK, hD0, hZ⟩ := hv
  have hx := B.exec
  have hb := B.bytes
  have hr := B.returns
  have hts := atoms_spec (ws := (wsOf yX9_kind cX9_kind 1 (some .int))) B.pre
  have hown : s.vm.findClass RX9 = some m.cls := findClass_of_methodNamed B.named
  have hlocks := B.notSynchronized
  subst hsz
  have hD := hD0.self (sz := s.heap.size)
  generalize hAe : va_A (cW cB cI cJ cZ cS cO b cs) s.heap.size = A at hD hZ ⊢
  have hA : ∀ q : Nat, s.heap.size ≤ q → A q := fun q h => by rw [← hAe]; exact Or.inr h
  have hS : va_S A s.heap s.heap [] := va_S.rf
  have hl := lv_entry ([.ref (b + x0)]) (n := 1) (Nat.le_of_ble_eq_true rfl)
  rw [lg_entry_eq]
  generalize (lg_sl ([.ref (b + x0)]) ++ List.replicate (1 - (lg_sl ([.ref (b + x0)])).length) Slot.unset).toArray = ls at hl ⊢
  have hl : lv_has ls 1 [(0, .ref (b + x0))] := hl
  have B_39 : ∀ (y0 : Int32), c_X9_kind_b39 F cs y0 = some r9 → ∀ (H : Heap) (locs : List Loc) (ls : Array Slot), va_P (dC, dI) vwCl (cW cB cI cJ cZ cS cO b cs) H → va_D A (cW cB cI cJ cZ cS cO b cs) → va_S A s.heap H locs → lv_has ls 1 [] → W p l e (headSpec (wsOf yX9_kind cX9_kind 1 (some .int)) ({ frames := 0, cells := 0, slots := 0, locals := 60 * (0) } : Room)).room s m ([.ref (b + x0)] : List Value).toArray below meth c H locs 0 0 (MQ below (va_Qi (fun (x : Int32) (_ : Unit) => x = r9) (fun _ t_ => va_P (dC, dI) vwCl (cW cB cI cJ cZ cS cO b cs) t_.heap ∧ va_D A (cW cB cI cJ cZ cS cO b cs)) A) ([.ref (b + x0)] : List Value).toArray s 0 0 A) (F0 m 39 ls [.int y0]) := by
    intro y0 h H locs ls hP hD hS hl
    unfold c_X9_kind_b39 at h
    have e2 := Option.some.inj h
    exact W.iret (v := y0) hx hb hr (fun t_ ht hW => ⟨⟨y0, (), rfl, e2, by rw [ht]; exact hP, hD⟩, hS.F ht⟩) hS.2.2 dX9_kind_39
  have B_22 : c_X9_kind_b22 F cs = some r9 → ∀ (H : Heap) (locs : List Loc) (ls : Array Slot), va_P (dC, dI) vwCl (cW cB cI cJ cZ cS cO b cs) H → va_D A (cW cB cI cJ cZ cS cO b cs) → va_S A s.heap H locs → lv_has ls 1 [] → W p l e (headSpec (wsOf yX9_kind cX9_kind 1 (some .int)) ({ frames := 0, cells := 0, slots := 0, locals := 60 * (0) } : Room)).room s m ([.ref (b + x0)] : List Value).toArray below meth c H locs 0 0 (MQ below (va_Qi (fun (x : Int32) (_ : Unit) => x = r9) (fun _ t_ => va_P (dC, dI) vwCl (cW cB cI cJ cZ cS cO b cs) t_.heap ∧ va_D A (cW cB cI cJ cZ cS cO b cs)) A) ([.ref (b + x0)] : List Value).toArray s 0 0 A) (F0 m 22 ls []) := by
    intro  h H locs ls hP hD hS hl
    unfold c_X9_kind_b22 at h
    refine lv_bipush (v := 57) hx hb dX9_kind_22 (by decide) ?_
    refine lv_goto (tgt := 39) hx hb dX9_kind_24 (by decide) ?_
    exact B_39 57 h _ _ _ hP hD hS (lv_sub hl [] rfl)
  have h := hf
  unfold c_X9_kind at h
  refine lv_aload_n hx hb dX9_kind_0 rfl (lv_at hl 0 rfl) ?_
  replace h := ob h; obtain ⟨v_1, hv_1, h⟩ := h
  refine fg_X9_93 hx hb hts hown hK hP hv_1 dX9_kind_1 ?_
  refine lv_if_ne (tgt := 22) hx hb dX9_kind_4 (by decide) (fun c_2 => ?_) (fun c_2 => ?_)
  · skip
    replace h := (if_neg c_2).symm.trans h
    exact B_22  h _ _ _ hP hD hS (lv_sub hl [] rfl)
  · skip
    replace h := (if_pos c_2).symm.trans h
    refine lv_aload_n hx hb dX9_kind_7 rfl (lv_at hl 0 rfl) ?_
    replace h := ob h; obtain ⟨v_3, hv_3, h⟩ := h
    refine fg_X9_99 hx hb hts hown hK hP hv_3 dX9_kind_8 ?_
    refine lv_aload_n hx hb dX9_kind_11 rfl (lv_at hl 0 rfl) ?_
    replace h := ob h; obtain ⟨v_4, hv_4, h⟩ := h
    refine fg_X9_9 hx hb hts hown hK hP hv_4 dX9_kind_12 ?_
    replace h := ob h; obtain ⟨i_5, hi_5, h⟩ := h
    subst hi_5
    replace h := ob h; obtain ⟨v_6, hv_6, h⟩ := h
    refine fg_X9_102 hx hb hts hown hK hP hv_6 dX9_kind_15 ?_
    replace h := ob h; obtain ⟨v_7, hv_7, h⟩ := h
    refine alen0 hx hb hK hP rfl hv_7 dX9_kind_18 ?_
    refine lv_icmp_lt (tgt := 27) hx hb dX9_kind_19 (by decide) (fun c_8 => ?_) (fun c_8 => ?_)
    · skip
      replace h := (if_pos c_8).symm.trans h
      refine lv_aload_n hx hb dX9_kind_27 rfl (lv_at hl 0 rfl) ?_
      replace h := ob h; obtain ⟨v_9, hv_9, h⟩ := h
      refine fg_X9_9 hx hb hts hown hK hP hv_9 dX9_kind_28 ?_
      replace h := ob h; obtain ⟨i_10, hi_10, h⟩ := h
      subst hi_10
      replace h := ob h; obtain ⟨v_11, hv_11, h⟩ := h
      refine fg_X9_102 hx hb hts hown hK hP hv_11 dX9_kind_31 ?_
      refine lv_aload_n hx hb dX9_kind_34 rfl (lv_at hl 0 rfl) ?_
      replace h := ob h; obtain ⟨v_12, hv_12, h⟩ := h
      refine fg_X9_99 hx hb hts hown hK hP hv_12 dX9_kind_35 ?_
      replace h := ob h; obtain ⟨v_13, hv_13, h⟩ := h
      refine ald0 hx hb hK hP rfl hv_13 dX9_kind_38 ?_
      exact B_39 v_13 h _ _ _ hP hD hS (lv_sub hl [] rfl)
    · skip
      replace h := (if_neg c_8).symm.trans h
      exact B_22  h _ _ _ hP hD hS (lv_sub hl [] rfl)
theorem dX9_here_0 : decode cX9_here 0 = .ok (.aload_n 0, 1) := by decide +kernel
theorem dX9_here_1 : decode cX9_here 1 = .ok (.getfield 99, 3) := by decide +kernel
theorem dX9_here_4 : decode cX9_here 4 = .ok (.aload_n 0, 1) := by decide +kernel
theorem dX9_here_5 : decode cX9_here 5 = .ok (.getfield 9, 3) := by decide +kernel
theorem dX9_here_8 : decode cX9_here 8 = .ok (.getfield 107, 3) := by decide +kernel
theorem dX9_here_11 : decode cX9_here 11 = .ok (.arraylength, 1) := by decide +kernel
theorem dX9_here_12 : decode cX9_here 12 = .ok (.if_icmp .ge 18, 3) := by decide +kernel
theorem dX9_here_15 : decode cX9_here 15 = .ok (.aload_n 0, 1) := by decide +kernel
theorem dX9_here_16 : decode cX9_here 16 = .ok (.getfield 9, 3) := by decide +kernel
theorem dX9_here_19 : decode cX9_here 19 = .ok (.getfield 107, 3) := by decide +kernel
theorem dX9_here_22 : decode cX9_here 22 = .ok (.aload_n 0, 1) := by decide +kernel
theorem dX9_here_23 : decode cX9_here 23 = .ok (.getfield 99, 3) := by decide +kernel
theorem dX9_here_26 : decode cX9_here 26 = .ok (.iaload, 1) := by decide +kernel
theorem dX9_here_27 : decode cX9_here 27 = .ok (.goto 4, 3) := by decide +kernel
theorem dX9_here_30 : decode cX9_here 30 = .ok (.iconst 0, 1) := by decide +kernel
theorem dX9_here_31 : decode cX9_here 31 = .ok (.ireturn, 1) := by decide +kernel
def c_X9_here_b31 (F : Nat) (cs : CS) (y0 : Int32) : Option Int32 := some y0
def c_X9_here (F : Nat) (cs : CS) (x0 : Nat) : Option Int32 := Option.bind (gI cs 10 328 x0) fun v_1 => Option.bind (gR cs 10 327 x0) fun v_2 => Option.bind (v_2) fun i_3 => Option.bind (gA cs 11 353 i_3) fun v_4 => Option.bind (lnA cs 353 i_3 v_4) fun v_5 => if v_5 ≤ v_1 then (c_X9_here_b31 F cs 0) else (Option.bind (gR cs 10 327 x0) fun v_7 => Option.bind (v_7) fun i_8 => Option.bind (gA cs 11 353 i_8) fun v_9 => Option.bind (gI cs 10 328 x0) fun v_10 => Option.bind (rA cs 353 i_8 v_9 v_10) fun v_11 => c_X9_here_b31 F cs v_11)
theorem cw_X9_X9_here {R : Room} {s : State} {args : Array Value} {y0 : MethodName} {c0 : ByteArray} {n0 : Nat} {r0 : Option FieldType} (hts : ∀ w ∈ wsOf y0 c0 n0 r0, w.before args s = true) {fr : Nat} (h1 : fr + 1 ≤ R.frames) (h2 : 8 + (1 + 11) + 60 * fr ≤ R.locals) : CallW R s args RX9 RX9 118 yX9_here cX9_here 1 (some .int) (wsOf yX9_here cX9_here 1 (some .int)) ({ frames := fr, cells := 0, slots := 0, locals := 60 * fr } : Room) 0 0 0 := cwV 0 hts (gd_all (in_V kw_923 kw_925 kw_16 kw_193 kc_X9_here)) rfl rfl rfl (by decide +kernel) ⟨h1, h2⟩
set_option maxHeartbeats 4000000 in
set_option maxRecDepth 100000 in
theorem sc_X9_here (l : Launch) (dC : Nat → ClassId) (dI : Nat → Nat → Nat) (cB cI cJ cZ cS cO : ClassId) (b : Nat) (K V : Nat → Nat) (fz : Value) (F : Nat) (cs : CS) (x0 : Nat) (r9 : Int32) (hf : c_X9_here F cs x0 = some r9) : ocI l dC dI cB cI cJ cZ cS cO b K V fz yX9_here (wsOf yX9_here cX9_here 1 (some .int)) (0) [.ref (b + x0)] cs cs r9 := by
  intro sz
  refine Met.ofW (cc := cX9_here) (maxL := 1) (ret := (some .int)) (by decide) rfl ?_
  intro p e s m args below meth c s₁ B hml hv
  obtain ⟨rfl, hsz, hP, hK, hD0, hZ⟩ := hv
  have hx := B.exec
  have hb := B.bytes
  have hr := B.returns
  have hts := atoms_spec (ws := (wsOf yX9_here cX9_here 1 (some .int))) B.pre
  have hown : s.vm.findClass RX9 = some m.cls := findClass_of_methodNamed B.named
  have hlocks := B.notSynchronized
  subst hsz
  have hD := hD0.self (sz := s.heap.size)
  generalize hAe : va_A (cW cB cI cJ cZ cS cO b cs) s.heap.size = A at hD hZ ⊢
  have hA : ∀ q : Nat, s.heap.size ≤ q → A q := fun q h => by rw [← hAe]; exact Or.inr h
  have hS : va_S A s.heap s.heap [] := va_S.rf
  have hl := lv_entry ([.ref (b + x0)]) (n := 1) (Nat.le_of_ble_eq_true rfl)
  rw [lg_entry_eq]
  generalize (lg_sl ([.ref (b + x0)]) ++ List.replicate (1 - (lg_sl ([.ref (b + x0)])).length) Slot.unset).toArray = ls at hl ⊢
  have hl : lv_has ls 1 [(0, .ref (b + x0))] := hl
  have B_31 : ∀ (y0 : Int32), c_X9_here_b31 F cs y0 = some r9 → ∀ (H : Heap) (locs : List Loc) (ls : Array Slot), va_P (dC, dI) vwCl (cW cB cI cJ cZ cS cO b cs) H → va_D A (cW cB cI cJ cZ cS cO b cs) → va_S A s.heap H locs → lv_has ls 1 [] → W p l e (headSpec (wsOf yX9_here cX9_here 1 (some .int)) ({ frames := 0, cells := 0, slots := 0, locals := 60 * (0) } : Room)).room s m ([.ref (b + x0)] : List Value).toArray below meth c H locs 0 0 (MQ below (va_Qi (fun (x : Int32) (_ : Unit) => x = r9) (fun _ t_ => va_P (dC, dI) vwCl (cW cB cI cJ cZ cS cO b cs) t_.heap ∧ va_D A (cW cB cI cJ cZ cS cO b cs)) A) ([.ref (b + x0)] : List Value).toArray s 0 0 A) (F0 m 31 ls [.int y0]) := by
    intro y0 h H locs ls hP hD hS hl
    unfold c_X9_here_b31 at h
    have e2 := Option.some.inj h
    exact W.iret (v := y0) hx hb hr (fun t_ ht hW => ⟨⟨y0, (), rfl, e2, by rw [ht]; exact hP, hD⟩, hS.F ht⟩) hS.2.2 dX9_here_31
  have h := hf
  unfold c_X9_here at h
  refine lv_aload_n hx hb dX9_here_0 rfl (lv_at hl 0 rfl) ?_
  replace h := ob h; obtain ⟨v_1, hv_1, h⟩ := h
  refine fg_X9_99 hx hb hts hown hK hP hv_1 dX9_here_1 ?_
  refine lv_aload_n hx hb dX9_here_4 rfl (lv_at hl 0 rfl) ?_
  replace h := ob h; obtain ⟨v_2, hv_2, h⟩ := h
  refine fg_X9_9 hx hb hts hown hK hP hv_2 dX9_here_5 ?_
  replace h := ob h; obtain ⟨i_3, hi_3, h⟩ := h
  subst hi_3
  replace h := ob h; obtain ⟨v_4, hv_4, h⟩ := h
  refine fg_X9_107 hx hb hts hown hK hP hv_4 dX9_here_8 ?_
  replace h := ob h; obtain ⟨v_5, hv_5, h⟩ := h
  refine alen0 hx hb hK hP rfl hv_5 dX9_here_11 ?_
  refine lv_icmp_ge (tgt := 30) hx hb dX9_here_12 (by decide) (fun c_6 => ?_) (fun c_6 => ?_)
  · skip
    replace h := (if_pos c_6).symm.trans h
    refine lv_iconst (v := 0) hx hb dX9_here_30 (by decide) ?_
    exact B_31 0 h _ _ _ hP hD hS (lv_sub hl [] rfl)
  · skip
    replace h := (if_neg c_6).symm.trans h
    refine lv_aload_n hx hb dX9_here_15 rfl (lv_at hl 0 rfl) ?_
    replace h := ob h; obtain ⟨v_7, hv_7, h⟩ := h
    refine fg_X9_9 hx hb hts hown hK hP hv_7 dX9_here_16 ?_
    replace h := ob h; obtain ⟨i_8, hi_8, h⟩ := h
    subst hi_8
    replace h := ob h; obtain ⟨v_9, hv_9, h⟩ := h
    refine fg_X9_107 hx hb hts hown hK hP hv_9 dX9_here_19 ?_
    refine lv_aload_n hx hb dX9_here_22 rfl (lv_at hl 0 rfl) ?_
    replace h := ob h; obtain ⟨v_10, hv_10, h⟩ := h
    refine fg_X9_99 hx hb hts hown hK hP hv_10 dX9_here_23 ?_
    replace h := ob h; obtain ⟨v_11, hv_11, h⟩ := h
    refine ald0 hx hb hK hP rfl hv_11 dX9_here_26 ?_
    refine lv_goto (tgt := 31) hx hb dX9_here_27 (by decide) ?_
    exact B_31 v_11 h _ _ _ hP hD hS (lv_sub hl [] rfl)
theorem dX9_number_0 : decode cX9_number 0 = .ok (.aload_n 0, 1) := by decide +kernel
theorem dX9_number_1 : decode cX9_number 1 = .ok (.getfield 99, 3) := by decide +kernel
theorem dX9_number_4 : decode cX9_number 4 = .ok (.aload_n 0, 1) := by decide +kernel
theorem dX9_number_5 : decode cX9_number 5 = .ok (.getfield 9, 3) := by decide +kernel
theorem dX9_number_8 : decode cX9_number 8 = .ok (.getfield 110, 3) := by decide +kernel
theorem dX9_number_11 : decode cX9_number 11 = .ok (.arraylength, 1) := by decide +kernel
theorem dX9_number_12 : decode cX9_number 12 = .ok (.if_icmp .ge 18, 3) := by decide +kernel
theorem dX9_number_15 : decode cX9_number 15 = .ok (.aload_n 0, 1) := by decide +kernel
theorem dX9_number_16 : decode cX9_number 16 = .ok (.getfield 9, 3) := by decide +kernel
theorem dX9_number_19 : decode cX9_number 19 = .ok (.getfield 110, 3) := by decide +kernel
theorem dX9_number_22 : decode cX9_number 22 = .ok (.aload_n 0, 1) := by decide +kernel
theorem dX9_number_23 : decode cX9_number 23 = .ok (.getfield 99, 3) := by decide +kernel
theorem dX9_number_26 : decode cX9_number 26 = .ok (.laload, 1) := by decide +kernel
theorem dX9_number_27 : decode cX9_number 27 = .ok (.goto 4, 3) := by decide +kernel
theorem dX9_number_30 : decode cX9_number 30 = .ok (.lconst 0, 1) := by decide +kernel
theorem dX9_number_31 : decode cX9_number 31 = .ok (.lreturn, 1) := by decide +kernel
def c_X9_number_b31 (F : Nat) (cs : CS) (y0 : Int64) : Option Int64 := some y0
def c_X9_number (F : Nat) (cs : CS) (x0 : Nat) : Option Int64 := Option.bind (gI cs 10 328 x0) fun v_1 => Option.bind (gR cs 10 327 x0) fun v_2 => Option.bind (v_2) fun i_3 => Option.bind (gA cs 11 354 i_3) fun v_4 => Option.bind (lnA cs 354 i_3 v_4) fun v_5 => if v_5 ≤ v_1 then (c_X9_number_b31 F cs 0) else (Option.bind (gR cs 10 327 x0) fun v_7 => Option.bind (v_7) fun i_8 => Option.bind (gA cs 11 354 i_8) fun v_9 => Option.bind (gI cs 10 328 x0) fun v_10 => Option.bind (rB cs 354 i_8 v_9 v_10) fun v_11 => c_X9_number_b31 F cs v_11)
theorem cw_X9_X9_number {R : Room} {s : State} {args : Array Value} {y0 : MethodName} {c0 : ByteArray} {n0 : Nat} {r0 : Option FieldType} (hts : ∀ w ∈ wsOf y0 c0 n0 r0, w.before args s = true) {fr : Nat} (h1 : fr + 1 ≤ R.frames) (h2 : 8 + (1 + 11) + 60 * fr ≤ R.locals) : CallW R s args RX9 RX9 125 yX9_number cX9_number 1 (some .long) (wsOf yX9_number cX9_number 1 (some .long)) ({ frames := fr, cells := 0, slots := 0, locals := 60 * fr } : Room) 0 0 0 := cwV 0 hts (gd_all (in_V kw_983 kw_985 kw_29 kw_193 kc_X9_number)) rfl rfl rfl (by decide +kernel) ⟨h1, h2⟩
set_option maxHeartbeats 4000000 in
set_option maxRecDepth 100000 in
theorem sc_X9_number (l : Launch) (dC : Nat → ClassId) (dI : Nat → Nat → Nat) (cB cI cJ cZ cS cO : ClassId) (b : Nat) (K V : Nat → Nat) (fz : Value) (F : Nat) (cs : CS) (x0 : Nat) (r9 : Int64) (hf : c_X9_number F cs x0 = some r9) : ocL l dC dI cB cI cJ cZ cS cO b K V fz yX9_number (wsOf yX9_number cX9_number 1 (some .long)) (0) [.ref (b + x0)] cs cs r9 := by
  intro sz
  refine Met.ofW (cc := cX9_number) (maxL := 1) (ret := (some .long)) (by decide) rfl ?_
  intro p e s m args below meth c s₁ B hml hv
  obtain ⟨rfl, hsz, hP, hK, hD0, hZ⟩ := hv
  have hx := B.exec
  have hb := B.bytes
  have hr := B.returns
  have hts := atoms_spec (ws := (wsOf yX9_number cX9_number 1 (some .long))) B.pre
  have hown : s.vm.findClass RX9 = some m.cls := findClass_of_methodNamed B.named
  have hlocks := B.notSynchronized
  subst hsz
  have hD := hD0.self (sz := s.heap.size)
  generalize hAe : va_A (cW cB cI cJ cZ cS cO b cs) s.heap.size = A at hD hZ ⊢
  have hA : ∀ q : Nat, s.heap.size ≤ q → A q := fun q h => by rw [← hAe]; exact Or.inr h
  have hS : va_S A s.heap s.heap [] := va_S.rf
  have hl := lv_entry ([.ref (b + x0)]) (n := 1) (Nat.le_of_ble_eq_true rfl)
  rw [lg_entry_eq]
  generalize (lg_sl ([.ref (b + x0)]) ++ List.replicate (1 - (lg_sl ([.ref (b + x0)])).length) Slot.unset).toArray = ls at hl ⊢
  have hl : lv_has ls 1 [(0, .ref (b + x0))] := hl
  have B_31 : ∀ (y0 : Int64), c_X9_number_b31 F cs y0 = some r9 → ∀ (H : Heap) (locs : List Loc) (ls : Array Slot), va_P (dC, dI) vwCl (cW cB cI cJ cZ cS cO b cs) H → va_D A (cW cB cI cJ cZ cS cO b cs) → va_S A s.heap H locs → lv_has ls 1 [] → W p l e (headSpec (wsOf yX9_number cX9_number 1 (some .long)) ({ frames := 0, cells := 0, slots := 0, locals := 60 * (0) } : Room)).room s m ([.ref (b + x0)] : List Value).toArray below meth c H locs 0 0 (MQ below (va_Ql (fun (x : Int64) (_ : Unit) => x = r9) (fun _ t_ => va_P (dC, dI) vwCl (cW cB cI cJ cZ cS cO b cs) t_.heap ∧ va_D A (cW cB cI cJ cZ cS cO b cs)) A) ([.ref (b + x0)] : List Value).toArray s 0 0 A) (F0 m 31 ls [.long y0]) := by
    intro y0 h H locs ls hP hD hS hl
    unfold c_X9_number_b31 at h
    have e2 := Option.some.inj h
    exact W.lret (v := y0) hx hb hr (fun t_ ht hW => ⟨⟨y0, (), rfl, e2, by rw [ht]; exact hP, hD⟩, hS.F ht⟩) hS.2.2 dX9_number_31
  have h := hf
  unfold c_X9_number at h
  refine lv_aload_n hx hb dX9_number_0 rfl (lv_at hl 0 rfl) ?_
  replace h := ob h; obtain ⟨v_1, hv_1, h⟩ := h
  refine fg_X9_99 hx hb hts hown hK hP hv_1 dX9_number_1 ?_
  refine lv_aload_n hx hb dX9_number_4 rfl (lv_at hl 0 rfl) ?_
  replace h := ob h; obtain ⟨v_2, hv_2, h⟩ := h
  refine fg_X9_9 hx hb hts hown hK hP hv_2 dX9_number_5 ?_
  replace h := ob h; obtain ⟨i_3, hi_3, h⟩ := h
  subst hi_3
  replace h := ob h; obtain ⟨v_4, hv_4, h⟩ := h
  refine fg_X9_110 hx hb hts hown hK hP hv_4 dX9_number_8 ?_
  replace h := ob h; obtain ⟨v_5, hv_5, h⟩ := h
  refine alen2 hx hb hK hP rfl hv_5 dX9_number_11 ?_
  refine lv_icmp_ge (tgt := 30) hx hb dX9_number_12 (by decide) (fun c_6 => ?_) (fun c_6 => ?_)
  · skip
    replace h := (if_pos c_6).symm.trans h
    refine lv_lconst (v := 0) hx hb dX9_number_30 (by decide) ?_
    exact B_31 0 h _ _ _ hP hD hS (lv_sub hl [] rfl)
  · skip
    replace h := (if_neg c_6).symm.trans h
    refine lv_aload_n hx hb dX9_number_15 rfl (lv_at hl 0 rfl) ?_
    replace h := ob h; obtain ⟨v_7, hv_7, h⟩ := h
    refine fg_X9_9 hx hb hts hown hK hP hv_7 dX9_number_16 ?_
    replace h := ob h; obtain ⟨i_8, hi_8, h⟩ := h
    subst hi_8
    replace h := ob h; obtain ⟨v_9, hv_9, h⟩ := h
    refine fg_X9_110 hx hb hts hown hK hP hv_9 dX9_number_19 ?_
    refine lv_aload_n hx hb dX9_number_22 rfl (lv_at hl 0 rfl) ?_
    replace h := ob h; obtain ⟨v_10, hv_10, h⟩ := h
    refine fg_X9_99 hx hb hts hown hK hP hv_10 dX9_number_23 ?_
    replace h := ob h; obtain ⟨v_11, hv_11, h⟩ := h
    refine ald2 hx hb hK hP rfl hv_11 dX9_number_26 ?_
    refine lv_goto (tgt := 31) hx hb dX9_number_27 (by decide) ?_
    exact B_31 v_11 h _ _ _ hP hD hS (lv_sub hl [] rfl)
theorem dX9_accept_0 : decode cX9_accept 0 = .ok (.aload_n 0, 1) := by decide +kernel
theorem dX9_accept_1 : decode cX9_accept 1 = .ok (.invokevirtual 114, 3) := by decide +kernel
theorem dX9_accept_4 : decode cX9_accept 4 = .ok (.iload_n 1, 1) := by decide +kernel
theorem dX9_accept_5 : decode cX9_accept 5 = .ok (.if_icmp .ne 7, 3) := by decide +kernel
theorem dX9_accept_8 : decode cX9_accept 8 = .ok (.iconst 1, 1) := by decide +kernel
theorem dX9_accept_9 : decode cX9_accept 9 = .ok (.goto 4, 3) := by decide +kernel
theorem dX9_accept_12 : decode cX9_accept 12 = .ok (.iconst 0, 1) := by decide +kernel
theorem dX9_accept_13 : decode cX9_accept 13 = .ok (.istore_n 2, 1) := by decide +kernel
theorem dX9_accept_14 : decode cX9_accept 14 = .ok (.aload_n 0, 1) := by decide +kernel
theorem dX9_accept_15 : decode cX9_accept 15 = .ok (.dup, 1) := by decide +kernel
theorem dX9_accept_16 : decode cX9_accept 16 = .ok (.getfield 99, 3) := by decide +kernel
theorem dX9_accept_19 : decode cX9_accept 19 = .ok (.iload_n 2, 1) := by decide +kernel
theorem dX9_accept_20 : decode cX9_accept 20 = .ok (.ifCond .eq 7, 3) := by decide +kernel
theorem dX9_accept_23 : decode cX9_accept 23 = .ok (.iconst 1, 1) := by decide +kernel
theorem dX9_accept_24 : decode cX9_accept 24 = .ok (.goto 4, 3) := by decide +kernel
theorem dX9_accept_27 : decode cX9_accept 27 = .ok (.iconst 0, 1) := by decide +kernel
theorem dX9_accept_28 : decode cX9_accept 28 = .ok (.iadd, 1) := by decide +kernel
theorem dX9_accept_29 : decode cX9_accept 29 = .ok (.putfield 99, 3) := by decide +kernel
theorem dX9_accept_32 : decode cX9_accept 32 = .ok (.iload_n 2, 1) := by decide +kernel
theorem dX9_accept_33 : decode cX9_accept 33 = .ok (.ireturn, 1) := by decide +kernel
def c_X9_accept_b28 (F : Nat) (cs1 : CS) (u2 : Int32) (y0 : Int32) (y1 : Int32) (y2 : Nat) : Option (CS × Int32) := Option.bind (pI cs1 10 328 y2 (y1 + y0)) fun cs_1 => Option.bind (ckZ u2) fun _ => some (cs_1, u2)
def c_X9_accept_b13 (F : Nat) (cs1 : CS) (u0 : Nat) (y0 : Int32) : Option (CS × Int32) := Option.bind (gI cs1 10 328 u0) fun v_3 => if y0 = 0 then (c_X9_accept_b28 F cs1 y0 0 v_3 u0) else (c_X9_accept_b28 F cs1 y0 1 v_3 u0)
def c_X9_accept (F : Nat) (cs : CS) (x0 : Nat) (x1 : Int32) : Option (CS × Int32) := Option.bind (ckE cs 10 x0) fun _ => Option.bind (c_X9_kind F cs x0) fun v_5 => if v_5 = x1 then (c_X9_accept_b13 F cs x0 1) else (c_X9_accept_b13 F cs x0 0)
theorem cw_X9_X9_accept {R : Room} {s : State} {args : Array Value} {y0 : MethodName} {c0 : ByteArray} {n0 : Nat} {r0 : Option FieldType} (hts : ∀ w ∈ wsOf y0 c0 n0 r0, w.before args s = true) {fr : Nat} (h1 : fr + 1 ≤ R.frames) (h2 : 8 + (3 + 11) + 60 * fr ≤ R.locals) : CallW R s args RX9 RX9 48 yX9_accept cX9_accept 3 (some .boolean) (wsOf yX9_accept cX9_accept 3 (some .boolean)) ({ frames := fr, cells := 0, slots := 0, locals := 60 * fr } : Room) 0 0 1 := cwV 1 hts (gd_all (in_V kw_903 kw_905 kw_11 kw_193 kc_X9_accept)) rfl rfl rfl (by decide +kernel) ⟨h1, h2⟩
set_option maxHeartbeats 4000000 in
set_option maxRecDepth 100000 in
theorem sc_X9_accept (l : Launch) (dC : Nat → ClassId) (dI : Nat → Nat → Nat) (cB cI cJ cZ cS cO : ClassId) (b : Nat) (K V : Nat → Nat) (fz : Value) (F : Nat) (cs : CS) (x0 : Nat) (x1 : Int32) (cs9 : CS) (r9 : Int32) (hf : c_X9_accept F cs x0 x1 = some (cs9, r9)) : ocI l dC dI cB cI cJ cZ cS cO b K V fz yX9_accept (wsOf yX9_accept cX9_accept 3 (some .boolean)) (1) [.ref (b + x0), .int x1] cs cs9 r9 := by
  intro sz
  refine Met.ofW (cc := cX9_accept) (maxL := 3) (ret := (some .boolean)) (by decide) rfl ?_
  intro p e s m args below meth c s₁ B hml hv
  obtain ⟨rfl, hsz, hP, hK, hD0, hZ⟩ := hv
  have hx := B.exec
  have hb := B.bytes
  have hr := B.returns
  have hts := atoms_spec (ws := (wsOf yX9_accept cX9_accept 3 (some .boolean))) B.pre
  have hown : s.vm.findClass RX9 = some m.cls := findClass_of_methodNamed B.named
  have hlocks := B.notSynchronized
  subst hsz
  have hD := hD0.self (sz := s.heap.size)
  generalize hAe : va_A (cW cB cI cJ cZ cS cO b cs) s.heap.size = A at hD hZ ⊢
  have hA : ∀ q : Nat, s.heap.size ≤ q → A q := fun q h => by rw [← hAe]; exact Or.inr h
  have hS : va_S A s.heap s.heap [] := va_S.rf
  have hl := lv_entry ([.ref (b + x0), .int x1]) (n := 3) (Nat.le_of_ble_eq_true rfl)
  rw [lg_entry_eq]
  generalize (lg_sl ([.ref (b + x0), .int x1]) ++ List.replicate (3 - (lg_sl ([.ref (b + x0), .int x1])).length) Slot.unset).toArray = ls at hl ⊢
  have hl : lv_has ls 3 [(0, .ref (b + x0)), (1, .int x1)] := hl
  have B_28 : ∀ (cs1 : CS) (u2 : Int32) (y0 : Int32) (y1 : Int32) (y2 : Nat), c_X9_accept_b28 F cs1 u2 y0 y1 y2 = some (cs9, r9) → ∀ (H : Heap) (locs : List Loc) (ls : Array Slot), va_P (dC, dI) vwCl (cW cB cI cJ cZ cS cO b cs1) H → va_D A (cW cB cI cJ cZ cS cO b cs1) → va_S A s.heap H locs → lv_has ls 3 [(2, .int u2)] → W p l e (headSpec (wsOf yX9_accept cX9_accept 3 (some .boolean)) ({ frames := 1, cells := 0, slots := 0, locals := 60 * (1) } : Room)).room s m ([.ref (b + x0), .int x1] : List Value).toArray below meth c H locs 0 0 (MQ below (va_Qi (fun (x : Int32) (_ : Unit) => x = r9) (fun _ t_ => va_P (dC, dI) vwCl (cW cB cI cJ cZ cS cO b cs9) t_.heap ∧ va_D A (cW cB cI cJ cZ cS cO b cs9)) A) ([.ref (b + x0), .int x1] : List Value).toArray s 0 0 A) (F0 m 28 ls [.int y0, .int y1, .ref (b + y2)]) := by
    intro cs1 u2 y0 y1 y2 h H locs ls hP hD hS hl
    unfold c_X9_accept_b28 at h
    refine lv_iadd hx hb dX9_accept_28 ?_
    replace h := ob h; obtain ⟨cs_1, hv_1, h⟩ := h
    refine fp_X9_99 hx hb hts hown hK hP hD hS hv_1 dX9_accept_29 (fun H locs hP hD hS => ?_)
    refine lv_iload_n hx hb dX9_accept_32 rfl (lv_at hl 0 rfl) ?_
    replace h := ob h; obtain ⟨w_2, hw_2, h⟩ := h
    obtain ⟨e1, e2⟩ := Prod.mk.inj (Option.some.inj h)
    rw [e1] at hP hD
    exact W.zret (v := u2) hx hb hr (nzN (ckZ_some hw_2)) (fun t_ ht hW => ⟨⟨u2, (), rfl, e2, by rw [ht]; exact hP, hD⟩, hS.F ht⟩) hS.2.2 dX9_accept_33
  have B_13 : ∀ (cs1 : CS) (u0 : Nat) (y0 : Int32), c_X9_accept_b13 F cs1 u0 y0 = some (cs9, r9) → ∀ (H : Heap) (locs : List Loc) (ls : Array Slot), va_P (dC, dI) vwCl (cW cB cI cJ cZ cS cO b cs1) H → va_D A (cW cB cI cJ cZ cS cO b cs1) → va_S A s.heap H locs → lv_has ls 3 [(0, .ref (b + u0))] → W p l e (headSpec (wsOf yX9_accept cX9_accept 3 (some .boolean)) ({ frames := 1, cells := 0, slots := 0, locals := 60 * (1) } : Room)).room s m ([.ref (b + x0), .int x1] : List Value).toArray below meth c H locs 0 0 (MQ below (va_Qi (fun (x : Int32) (_ : Unit) => x = r9) (fun _ t_ => va_P (dC, dI) vwCl (cW cB cI cJ cZ cS cO b cs9) t_.heap ∧ va_D A (cW cB cI cJ cZ cS cO b cs9)) A) ([.ref (b + x0), .int x1] : List Value).toArray s 0 0 A) (F0 m 13 ls [.int y0]) := by
    intro cs1 u0 y0 h H locs ls hP hD hS hl
    unfold c_X9_accept_b13 at h
    refine lv_istore_n (lv' := [(2, .int y0), (0, .ref (b + u0))]) hx hb dX9_accept_13 rfl hl (by decide) rfl (fun ls hl => ?_)
    refine lv_aload_n hx hb dX9_accept_14 rfl (lv_at hl 1 rfl) ?_
    refine lv_dup hx hb dX9_accept_15 rfl ?_
    replace h := ob h; obtain ⟨v_3, hv_3, h⟩ := h
    refine fg_X9_99 hx hb hts hown hK hP hv_3 dX9_accept_16 ?_
    refine lv_iload_n hx hb dX9_accept_19 rfl (lv_at hl 0 rfl) ?_
    refine lv_if_eq (tgt := 27) hx hb dX9_accept_20 (by decide) (fun c_4 => ?_) (fun c_4 => ?_)
    · skip
      replace h := (if_pos c_4).symm.trans h
      refine lv_iconst (v := 0) hx hb dX9_accept_27 (by decide) ?_
      exact B_28 cs1 y0 0 v_3 u0 h _ _ _ hP hD hS (lv_sub hl [0] rfl)
    · skip
      replace h := (if_neg c_4).symm.trans h
      refine lv_iconst (v := 1) hx hb dX9_accept_23 (by decide) ?_
      refine lv_goto (tgt := 28) hx hb dX9_accept_24 (by decide) ?_
      exact B_28 cs1 y0 1 v_3 u0 h _ _ _ hP hD hS (lv_sub hl [0] rfl)
  have h := hf
  unfold c_X9_accept at h
  refine lv_aload_n hx hb dX9_accept_0 rfl (lv_at hl 0 rfl) ?_
  replace h := ob h; obtain ⟨w_6, hw_6, h⟩ := h
  replace h := ob h; obtain ⟨v_5, hv_5, h⟩ := h
  refine ccI (As := []) hx hb hml hts hown hK hP hD hS hA hZ (X := 10) (by decide) rfl (ckE_some hw_6) (sc_X9_kind l dC dI cB cI cJ cZ cS cO b K V fz F cs x0 v_5 hv_5) (cw_X9_X9_kind hts (fr := 0) (Nat.le_of_ble_eq_true rfl) (Nat.le_of_ble_eq_true rfl)) rfl hl.1 (Nat.le_of_ble_eq_true rfl) ⟨Nat.zero_le _, Nat.zero_le _⟩ dX9_accept_1 (fun H locs hP hD hS => ?_)
  refine lv_iload_n hx hb dX9_accept_4 rfl (lv_at hl 1 rfl) ?_
  refine lv_icmp_ne (tgt := 12) hx hb dX9_accept_5 (by decide) (fun c_7 => ?_) (fun c_7 => ?_)
  · skip
    replace h := (if_neg c_7).symm.trans h
    refine lv_iconst (v := 0) hx hb dX9_accept_12 (by decide) ?_
    exact B_13 cs x0 0 h _ _ _ hP hD hS (lv_sub hl [0] rfl)
  · skip
    replace h := (if_pos c_7).symm.trans h
    refine lv_iconst (v := 1) hx hb dX9_accept_8 (by decide) ?_
    refine lv_goto (tgt := 13) hx hb dX9_accept_9 (by decide) ?_
    exact B_13 cs x0 1 h _ _ _ hP hD hS (lv_sub hl [0] rfl)
theorem dX9_expect_0 : decode cX9_expect 0 = .ok (.aload_n 0, 1) := by decide +kernel
theorem dX9_expect_1 : decode cX9_expect 1 = .ok (.invokevirtual 114, 3) := by decide +kernel
theorem dX9_expect_4 : decode cX9_expect 4 = .ok (.iload_n 1, 1) := by decide +kernel
theorem dX9_expect_5 : decode cX9_expect 5 = .ok (.if_icmp .ne 16, 3) := by decide +kernel
theorem dX9_expect_8 : decode cX9_expect 8 = .ok (.aload_n 0, 1) := by decide +kernel
theorem dX9_expect_9 : decode cX9_expect 9 = .ok (.dup, 1) := by decide +kernel
theorem dX9_expect_10 : decode cX9_expect 10 = .ok (.getfield 99, 3) := by decide +kernel
theorem dX9_expect_13 : decode cX9_expect 13 = .ok (.iconst 1, 1) := by decide +kernel
theorem dX9_expect_14 : decode cX9_expect 14 = .ok (.iadd, 1) := by decide +kernel
theorem dX9_expect_15 : decode cX9_expect 15 = .ok (.putfield 99, 3) := by decide +kernel
theorem dX9_expect_18 : decode cX9_expect 18 = .ok (.goto 12, 3) := by decide +kernel
theorem dX9_expect_21 : decode cX9_expect 21 = .ok (.aload_n 0, 1) := by decide +kernel
theorem dX9_expect_22 : decode cX9_expect 22 = .ok (.iconst 1, 1) := by decide +kernel
theorem dX9_expect_23 : decode cX9_expect 23 = .ok (.aload_n 0, 1) := by decide +kernel
theorem dX9_expect_24 : decode cX9_expect 24 = .ok (.invokevirtual 118, 3) := by decide +kernel
theorem dX9_expect_27 : decode cX9_expect 27 = .ok (.invokevirtual 121, 3) := by decide +kernel
theorem dX9_expect_30 : decode cX9_expect 30 = .ok (.return_, 1) := by decide +kernel
def c_X9_expect_b30 (F : Nat) (cs1 : CS) : Option CS := some cs1
def c_X9_expect (F : Nat) (cs : CS) (x0 : Nat) (x1 : Int32) : Option CS := Option.bind (ckE cs 10 x0) fun _ => Option.bind (c_X9_kind F cs x0) fun v_1 => if v_1 = x1 then (Option.bind (gI cs 10 328 x0) fun v_8 => Option.bind (pI cs 10 328 x0 (v_8 + 1)) fun cs_9 => c_X9_expect_b30 F cs_9) else (Option.bind (ckE cs 10 x0) fun _ => Option.bind (c_X9_here F cs x0) fun v_4 => Option.bind (ckE cs 10 x0) fun _ => Option.bind (c_X9_refuse F cs x0 1 v_4) fun cs_6 => c_X9_expect_b30 F cs_6)
theorem cw_X9_X9_expect {R : Room} {s : State} {args : Array Value} {y0 : MethodName} {c0 : ByteArray} {n0 : Nat} {r0 : Option FieldType} (hts : ∀ w ∈ wsOf y0 c0 n0 r0, w.before args s = true) {fr : Nat} (h1 : fr + 1 ≤ R.frames) (h2 : 8 + (2 + 11) + 60 * fr ≤ R.locals) : CallW R s args RX9 RX9 60 yX9_expect cX9_expect 2 none (wsOf yX9_expect cX9_expect 2 none) ({ frames := fr, cells := 0, slots := 0, locals := 60 * fr } : Room) 0 0 1 := cwV 1 hts (gd_all (in_V kw_919 kw_921 kw_15 kw_193 kc_X9_expect)) rfl rfl rfl (by decide +kernel) ⟨h1, h2⟩
set_option maxHeartbeats 4000000 in
set_option maxRecDepth 100000 in
theorem sc_X9_expect (l : Launch) (dC : Nat → ClassId) (dI : Nat → Nat → Nat) (cB cI cJ cZ cS cO : ClassId) (b : Nat) (K V : Nat → Nat) (fz : Value) (F : Nat) (cs : CS) (x0 : Nat) (x1 : Int32) (cs9 : CS) (hf : c_X9_expect F cs x0 x1 = some cs9) : ocV l dC dI cB cI cJ cZ cS cO b K V fz yX9_expect (wsOf yX9_expect cX9_expect 2 none) (1) [.ref (b + x0), .int x1] cs cs9 := by
  intro sz
  refine Met.ofW (cc := cX9_expect) (maxL := 2) (ret := none) (by decide) rfl ?_
  intro p e s m args below meth c s₁ B hml hv
  obtain ⟨rfl, hsz, hP, hK, hD0, hZ⟩ := hv
  have hx := B.exec
  have hb := B.bytes
  have hr := B.returns
  have hts := atoms_spec (ws := (wsOf yX9_expect cX9_expect 2 none)) B.pre
  have hown : s.vm.findClass RX9 = some m.cls := findClass_of_methodNamed B.named
  have hlocks := B.notSynchronized
  subst hsz
  have hD := hD0.self (sz := s.heap.size)
  generalize hAe : va_A (cW cB cI cJ cZ cS cO b cs) s.heap.size = A at hD hZ ⊢
  have hA : ∀ q : Nat, s.heap.size ≤ q → A q := fun q h => by rw [← hAe]; exact Or.inr h
  have hS : va_S A s.heap s.heap [] := va_S.rf
  have hl := lv_entry ([.ref (b + x0), .int x1]) (n := 2) (Nat.le_of_ble_eq_true rfl)
  rw [lg_entry_eq]
  generalize (lg_sl ([.ref (b + x0), .int x1]) ++ List.replicate (2 - (lg_sl ([.ref (b + x0), .int x1])).length) Slot.unset).toArray = ls at hl ⊢
  have hl : lv_has ls 2 [(0, .ref (b + x0)), (1, .int x1)] := hl
  have B_30 : ∀ (cs1 : CS) , c_X9_expect_b30 F cs1 = some cs9 → ∀ (H : Heap) (locs : List Loc) (ls : Array Slot), va_P (dC, dI) vwCl (cW cB cI cJ cZ cS cO b cs1) H → va_D A (cW cB cI cJ cZ cS cO b cs1) → va_S A s.heap H locs → lv_has ls 2 [] → W p l e (headSpec (wsOf yX9_expect cX9_expect 2 none) ({ frames := 1, cells := 0, slots := 0, locals := 60 * (1) } : Room)).room s m ([.ref (b + x0), .int x1] : List Value).toArray below meth c H locs 0 0 (MQ below (va_Qv (fun (_ : Unit) => True) (fun _ t_ => va_P (dC, dI) vwCl (cW cB cI cJ cZ cS cO b cs9) t_.heap ∧ va_D A (cW cB cI cJ cZ cS cO b cs9)) A) ([.ref (b + x0), .int x1] : List Value).toArray s 0 0 A) (F0 m 30 ls []) := by
    intro cs1  h H locs ls hP hD hS hl
    unfold c_X9_expect_b30 at h
    have e1 := Option.some.inj h
    rw [e1] at hP hD
    exact W.vret hx hb hr (fun t_ ht hW => ⟨⟨(), rfl, trivial, by rw [ht]; exact hP, hD⟩, hS.F ht⟩) hS.2.2 dX9_expect_30
  have h := hf
  unfold c_X9_expect at h
  refine lv_aload_n hx hb dX9_expect_0 rfl (lv_at hl 0 rfl) ?_
  replace h := ob h; obtain ⟨w_2, hw_2, h⟩ := h
  replace h := ob h; obtain ⟨v_1, hv_1, h⟩ := h
  refine ccI (As := []) hx hb hml hts hown hK hP hD hS hA hZ (X := 10) (by decide) rfl (ckE_some hw_2) (sc_X9_kind l dC dI cB cI cJ cZ cS cO b K V fz F cs x0 v_1 hv_1) (cw_X9_X9_kind hts (fr := 0) (Nat.le_of_ble_eq_true rfl) (Nat.le_of_ble_eq_true rfl)) rfl hl.1 (Nat.le_of_ble_eq_true rfl) ⟨Nat.zero_le _, Nat.zero_le _⟩ dX9_expect_1 (fun H locs hP hD hS => ?_)
  refine lv_iload_n hx hb dX9_expect_4 rfl (lv_at hl 1 rfl) ?_
  refine lv_icmp_ne (tgt := 21) hx hb dX9_expect_5 (by decide) (fun c_3 => ?_) (fun c_3 => ?_)
  · skip
    replace h := (if_neg c_3).symm.trans h
    refine lv_aload_n hx hb dX9_expect_21 rfl (lv_at hl 0 rfl) ?_
    refine lv_iconst (v := 1) hx hb dX9_expect_22 (by decide) ?_
    refine lv_aload_n hx hb dX9_expect_23 rfl (lv_at hl 0 rfl) ?_
    replace h := ob h; obtain ⟨w_5, hw_5, h⟩ := h
    replace h := ob h; obtain ⟨v_4, hv_4, h⟩ := h
    refine ccI (As := []) hx hb hml hts hown hK hP hD hS hA hZ (X := 10) (by decide) rfl (ckE_some hw_5) (sc_X9_here l dC dI cB cI cJ cZ cS cO b K V fz F cs x0 v_4 hv_4) (cw_X9_X9_here hts (fr := 0) (Nat.le_of_ble_eq_true rfl) (Nat.le_of_ble_eq_true rfl)) rfl hl.1 (Nat.le_of_ble_eq_true rfl) ⟨Nat.zero_le _, Nat.zero_le _⟩ dX9_expect_24 (fun H locs hP hD hS => ?_)
    replace h := ob h; obtain ⟨w_7, hw_7, h⟩ := h
    replace h := ob h; obtain ⟨cs_6, hv_6, h⟩ := h
    refine ccV (As := [.int 1, .int v_4]) hx hb hml hts hown hK hP hD hS hA hZ (X := 10) (by decide) rfl (ckE_some hw_7) (sc_X9_refuse l dC dI cB cI cJ cZ cS cO b K V fz F cs x0 1 v_4 cs_6 hv_6) (cw_X9_X9_refuse hts (fr := 0) (Nat.le_of_ble_eq_true rfl) (Nat.le_of_ble_eq_true rfl)) rfl hl.1 (Nat.le_of_ble_eq_true rfl) ⟨Nat.zero_le _, Nat.zero_le _⟩ dX9_expect_27 (fun H locs hP hD hS => ?_)
    exact B_30 cs_6 h _ _ _ hP hD hS (lv_sub hl [] rfl)
  · skip
    replace h := (if_pos c_3).symm.trans h
    refine lv_aload_n hx hb dX9_expect_8 rfl (lv_at hl 0 rfl) ?_
    refine lv_dup hx hb dX9_expect_9 rfl ?_
    replace h := ob h; obtain ⟨v_8, hv_8, h⟩ := h
    refine fg_X9_99 hx hb hts hown hK hP hv_8 dX9_expect_10 ?_
    refine lv_iconst (v := 1) hx hb dX9_expect_13 (by decide) ?_
    refine lv_iadd hx hb dX9_expect_14 ?_
    replace h := ob h; obtain ⟨cs_9, hv_9, h⟩ := h
    refine fp_X9_99 hx hb hts hown hK hP hD hS hv_9 dX9_expect_15 (fun H locs hP hD hS => ?_)
    refine lv_goto (tgt := 30) hx hb dX9_expect_18 (by decide) ?_
    exact B_30 cs_9 h _ _ _ hP hD hS (lv_sub hl [] rfl)
theorem dX9_readName_0 : decode cX9_readName 0 = .ok (.aload_n 0, 1) := by decide +kernel
theorem dX9_readName_1 : decode cX9_readName 1 = .ok (.invokevirtual 125, 3) := by decide +kernel
theorem dX9_readName_4 : decode cX9_readName 4 = .ok (.lstore_n 1, 1) := by decide +kernel
theorem dX9_readName_5 : decode cX9_readName 5 = .ok (.aload_n 0, 1) := by decide +kernel
theorem dX9_readName_6 : decode cX9_readName 6 = .ok (.bipush 39, 2) := by decide +kernel
theorem dX9_readName_8 : decode cX9_readName 8 = .ok (.invokevirtual 60, 3) := by decide +kernel
theorem dX9_readName_11 : decode cX9_readName 11 = .ok (.lload_n 1, 1) := by decide +kernel
theorem dX9_readName_12 : decode cX9_readName 12 = .ok (.lreturn, 1) := by decide +kernel
def c_X9_readName (F : Nat) (cs : CS) (x0 : Nat) : Option (CS × Int64) := Option.bind (ckE cs 10 x0) fun _ => Option.bind (c_X9_number F cs x0) fun v_1 => Option.bind (ckE cs 10 x0) fun _ => Option.bind (c_X9_expect F cs x0 39) fun cs_3 => some (cs_3, v_1)
theorem cw_X9_X9_readName {R : Room} {s : State} {args : Array Value} {y0 : MethodName} {c0 : ByteArray} {n0 : Nat} {r0 : Option FieldType} (hts : ∀ w ∈ wsOf y0 c0 n0 r0, w.before args s = true) {fr : Nat} (h1 : fr + 1 ≤ R.frames) (h2 : 8 + (3 + 11) + 60 * fr ≤ R.locals) : CallW R s args RX9 RX9 225 yX9_readName cX9_readName 3 (some .long) (wsOf yX9_readName cX9_readName 3 (some .long)) ({ frames := fr, cells := 0, slots := 0, locals := 60 * fr } : Room) 0 0 0 := cwV 0 hts (gd_all (in_V kw_1029 kw_1031 kw_38 kw_193 kc_X9_readName)) rfl rfl rfl (by decide +kernel) ⟨h1, h2⟩
set_option maxHeartbeats 4000000 in
set_option maxRecDepth 100000 in
theorem sc_X9_readName (l : Launch) (dC : Nat → ClassId) (dI : Nat → Nat → Nat) (cB cI cJ cZ cS cO : ClassId) (b : Nat) (K V : Nat → Nat) (fz : Value) (F : Nat) (cs : CS) (x0 : Nat) (cs9 : CS) (r9 : Int64) (hf : c_X9_readName F cs x0 = some (cs9, r9)) : ocL l dC dI cB cI cJ cZ cS cO b K V fz yX9_readName (wsOf yX9_readName cX9_readName 3 (some .long)) (2) [.ref (b + x0)] cs cs9 r9 := by
  intro sz
  refine Met.ofW (cc := cX9_readName) (maxL := 3) (ret := (some .long)) (by decide) rfl ?_
  intro p e s m args below meth c s₁ B hml hv
  obtain ⟨rfl, hsz, hP, hK, hD0, hZ⟩ := hv
  have hx := B.exec
  have hb := B.bytes
  have hr := B.returns
  have hts := atoms_spec (ws := (wsOf yX9_readName cX9_readName 3 (some .long))) B.pre
  have hown : s.vm.findClass RX9 = some m.cls := findClass_of_methodNamed B.named
  have hlocks := B.notSynchronized
  subst hsz
  have hD := hD0.self (sz := s.heap.size)
  generalize hAe : va_A (cW cB cI cJ cZ cS cO b cs) s.heap.size = A at hD hZ ⊢
  have hA : ∀ q : Nat, s.heap.size ≤ q → A q := fun q h => by rw [← hAe]; exact Or.inr h
  have hS : va_S A s.heap s.heap [] := va_S.rf
  have hl := lv_entry ([.ref (b + x0)]) (n := 3) (Nat.le_of_ble_eq_true rfl)
  rw [lg_entry_eq]
  generalize (lg_sl ([.ref (b + x0)]) ++ List.replicate (3 - (lg_sl ([.ref (b + x0)])).length) Slot.unset).toArray = ls at hl ⊢
  have hl : lv_has ls 3 [(0, .ref (b + x0))] := hl
  have h := hf
  unfold c_X9_readName at h
  refine lv_aload_n hx hb dX9_readName_0 rfl (lv_at hl 0 rfl) ?_
  replace h := ob h; obtain ⟨w_2, hw_2, h⟩ := h
  replace h := ob h; obtain ⟨v_1, hv_1, h⟩ := h
  refine ccL (As := []) hx hb hml hts hown hK hP hD hS hA hZ (X := 10) (by decide) rfl (ckE_some hw_2) (sc_X9_number l dC dI cB cI cJ cZ cS cO b K V fz F cs x0 v_1 hv_1) (cw_X9_X9_number hts (fr := 0) (Nat.le_of_ble_eq_true rfl) (Nat.le_of_ble_eq_true rfl)) rfl hl.1 (Nat.le_of_ble_eq_true rfl) ⟨Nat.zero_le _, Nat.zero_le _⟩ dX9_readName_1 (fun H locs hP hD hS => ?_)
  refine lv_lstore_n (lv' := [(1, .long v_1), (0, .ref (b + x0))]) hx hb dX9_readName_4 rfl hl (by decide) rfl (fun ls hl => ?_)
  refine lv_aload_n hx hb dX9_readName_5 rfl (lv_at hl 1 rfl) ?_
  refine lv_bipush (v := 39) hx hb dX9_readName_6 (by decide) ?_
  replace h := ob h; obtain ⟨w_4, hw_4, h⟩ := h
  replace h := ob h; obtain ⟨cs_3, hv_3, h⟩ := h
  refine ccV (As := [.int 39]) hx hb hml hts hown hK hP hD hS hA hZ (X := 10) (by decide) rfl (ckE_some hw_4) (sc_X9_expect l dC dI cB cI cJ cZ cS cO b K V fz F cs x0 39 cs_3 hv_3) (cw_X9_X9_expect hts (fr := 1) (Nat.le_of_ble_eq_true rfl) (Nat.le_of_ble_eq_true rfl)) rfl hl.1 (Nat.le_of_ble_eq_true rfl) ⟨Nat.zero_le _, Nat.zero_le _⟩ dX9_readName_8 (fun H locs hP hD hS => ?_)
  refine lv_lload_n hx hb dX9_readName_11 rfl (lv_at hl 0 rfl) ?_
  obtain ⟨e1, e2⟩ := Prod.mk.inj (Option.some.inj h)
  rw [e1] at hP hD
  exact W.lret (v := v_1) hx hb hr (fun t_ ht hW => ⟨⟨v_1, (), rfl, e2, by rw [ht]; exact hP, hD⟩, hS.F ht⟩) hS.2.2 dX9_readName_12
theorem dX9_readNumber_0 : decode cX9_readNumber 0 = .ok (.aload_n 0, 1) := by decide +kernel
theorem dX9_readNumber_1 : decode cX9_readNumber 1 = .ok (.invokevirtual 125, 3) := by decide +kernel
theorem dX9_readNumber_4 : decode cX9_readNumber 4 = .ok (.lstore_n 3, 1) := by decide +kernel
theorem dX9_readNumber_5 : decode cX9_readNumber 5 = .ok (.aload_n 0, 1) := by decide +kernel
theorem dX9_readNumber_6 : decode cX9_readNumber 6 = .ok (.invokevirtual 114, 3) := by decide +kernel
theorem dX9_readNumber_9 : decode cX9_readNumber 9 = .ok (.bipush 40, 2) := by decide +kernel
theorem dX9_readNumber_11 : decode cX9_readNumber 11 = .ok (.if_icmp .ne 18, 3) := by decide +kernel
theorem dX9_readNumber_14 : decode cX9_readNumber 14 = .ok (.lload_n 3, 1) := by decide +kernel
theorem dX9_readNumber_15 : decode cX9_readNumber 15 = .ok (.lload_n 1, 1) := by decide +kernel
theorem dX9_readNumber_16 : decode cX9_readNumber 16 = .ok (.lcmp, 1) := by decide +kernel
theorem dX9_readNumber_17 : decode cX9_readNumber 17 = .ok (.ifCond .le 12, 3) := by decide +kernel
theorem dX9_readNumber_20 : decode cX9_readNumber 20 = .ok (.aload_n 0, 1) := by decide +kernel
theorem dX9_readNumber_21 : decode cX9_readNumber 21 = .ok (.iconst 1, 1) := by decide +kernel
theorem dX9_readNumber_22 : decode cX9_readNumber 22 = .ok (.aload_n 0, 1) := by decide +kernel
theorem dX9_readNumber_23 : decode cX9_readNumber 23 = .ok (.invokevirtual 118, 3) := by decide +kernel
theorem dX9_readNumber_26 : decode cX9_readNumber 26 = .ok (.invokevirtual 121, 3) := by decide +kernel
theorem dX9_readNumber_29 : decode cX9_readNumber 29 = .ok (.aload_n 0, 1) := by decide +kernel
theorem dX9_readNumber_30 : decode cX9_readNumber 30 = .ok (.bipush 40, 2) := by decide +kernel
theorem dX9_readNumber_32 : decode cX9_readNumber 32 = .ok (.invokevirtual 60, 3) := by decide +kernel
theorem dX9_readNumber_35 : decode cX9_readNumber 35 = .ok (.lload_n 3, 1) := by decide +kernel
theorem dX9_readNumber_36 : decode cX9_readNumber 36 = .ok (.lreturn, 1) := by decide +kernel
def c_X9_readNumber_b29 (F : Nat) (cs1 : CS) (u0 : Nat) (u3 : Int64) : Option (CS × Int64) := Option.bind (ckE cs1 10 u0) fun _ => Option.bind (c_X9_expect F cs1 u0 40) fun cs_1 => some (cs_1, u3)
def c_X9_readNumber (F : Nat) (cs : CS) (x0 : Nat) (x1 : Int64) : Option (CS × Int64) := Option.bind (ckE cs 10 x0) fun _ => Option.bind (c_X9_number F cs x0) fun v_3 => Option.bind (ckE cs 10 x0) fun _ => Option.bind (c_X9_kind F cs x0) fun v_5 => if v_5 = 40 then (if v_3 ≤ x1 then (c_X9_readNumber_b29 F cs x0 v_3) else (Option.bind (ckE cs 10 x0) fun _ => Option.bind (c_X9_here F cs x0) fun v_9 => Option.bind (ckE cs 10 x0) fun _ => Option.bind (c_X9_refuse F cs x0 1 v_9) fun cs_11 => c_X9_readNumber_b29 F cs_11 x0 v_3)) else (c_X9_readNumber_b29 F cs x0 v_3)
theorem cw_X9_X9_readNumber {R : Room} {s : State} {args : Array Value} {y0 : MethodName} {c0 : ByteArray} {n0 : Nat} {r0 : Option FieldType} (hts : ∀ w ∈ wsOf y0 c0 n0 r0, w.before args s = true) {fr : Nat} (h1 : fr + 1 ≤ R.frames) (h2 : 8 + (5 + 11) + 60 * fr ≤ R.locals) : CallW R s args RX9 RX9 184 yX9_readNumber cX9_readNumber 5 (some .long) (wsOf yX9_readNumber cX9_readNumber 5 (some .long)) ({ frames := fr, cells := 0, slots := 0, locals := 60 * fr } : Room) 0 0 1 := cwV 1 hts (gd_all (in_V kw_1120 kw_1122 kw_42 kw_193 kc_X9_readNumber)) rfl rfl rfl (by decide +kernel) ⟨h1, h2⟩
set_option maxHeartbeats 4000000 in
set_option maxRecDepth 100000 in
theorem sc_X9_readNumber (l : Launch) (dC : Nat → ClassId) (dI : Nat → Nat → Nat) (cB cI cJ cZ cS cO : ClassId) (b : Nat) (K V : Nat → Nat) (fz : Value) (F : Nat) (cs : CS) (x0 : Nat) (x1 : Int64) (cs9 : CS) (r9 : Int64) (hf : c_X9_readNumber F cs x0 x1 = some (cs9, r9)) : ocL l dC dI cB cI cJ cZ cS cO b K V fz yX9_readNumber (wsOf yX9_readNumber cX9_readNumber 5 (some .long)) (2) [.ref (b + x0), .long x1] cs cs9 r9 := by
  intro sz
  refine Met.ofW (cc := cX9_readNumber) (maxL := 5) (ret := (some .long)) (by decide) rfl ?_
  intro p e s m args below meth c s₁ B hml hv
  obtain ⟨rfl, hsz, hP, hK, hD0, hZ⟩ := hv
  have hx := B.exec
  have hb := B.bytes
  have hr := B.returns
  have hts := atoms_spec (ws := (wsOf yX9_readNumber cX9_readNumber 5 (some .long))) B.pre
  have hown : s.vm.findClass RX9 = some m.cls := findClass_of_methodNamed B.named
  have hlocks := B.notSynchronized
  subst hsz
  have hD := hD0.self (sz := s.heap.size)
  generalize hAe : va_A (cW cB cI cJ cZ cS cO b cs) s.heap.size = A at hD hZ ⊢
  have hA : ∀ q : Nat, s.heap.size ≤ q → A q := fun q h => by rw [← hAe]; exact Or.inr h
  have hS : va_S A s.heap s.heap [] := va_S.rf
  have hl := lv_entry ([.ref (b + x0), .long x1]) (n := 5) (Nat.le_of_ble_eq_true rfl)
  rw [lg_entry_eq]
  generalize (lg_sl ([.ref (b + x0), .long x1]) ++ List.replicate (5 - (lg_sl ([.ref (b + x0), .long x1])).length) Slot.unset).toArray = ls at hl ⊢
  have hl : lv_has ls 5 [(0, .ref (b + x0)), (1, .long x1)] := hl
  have B_29 : ∀ (cs1 : CS) (u0 : Nat) (u3 : Int64), c_X9_readNumber_b29 F cs1 u0 u3 = some (cs9, r9) → ∀ (H : Heap) (locs : List Loc) (ls : Array Slot), va_P (dC, dI) vwCl (cW cB cI cJ cZ cS cO b cs1) H → va_D A (cW cB cI cJ cZ cS cO b cs1) → va_S A s.heap H locs → lv_has ls 5 [(0, .ref (b + u0)), (3, .long u3)] → W p l e (headSpec (wsOf yX9_readNumber cX9_readNumber 5 (some .long)) ({ frames := 2, cells := 0, slots := 0, locals := 60 * (2) } : Room)).room s m ([.ref (b + x0), .long x1] : List Value).toArray below meth c H locs 0 0 (MQ below (va_Ql (fun (x : Int64) (_ : Unit) => x = r9) (fun _ t_ => va_P (dC, dI) vwCl (cW cB cI cJ cZ cS cO b cs9) t_.heap ∧ va_D A (cW cB cI cJ cZ cS cO b cs9)) A) ([.ref (b + x0), .long x1] : List Value).toArray s 0 0 A) (F0 m 29 ls []) := by
    intro cs1 u0 u3 h H locs ls hP hD hS hl
    unfold c_X9_readNumber_b29 at h
    refine lv_aload_n hx hb dX9_readNumber_29 rfl (lv_at hl 0 rfl) ?_
    refine lv_bipush (v := 40) hx hb dX9_readNumber_30 (by decide) ?_
    replace h := ob h; obtain ⟨w_2, hw_2, h⟩ := h
    replace h := ob h; obtain ⟨cs_1, hv_1, h⟩ := h
    refine ccV (As := [.int 40]) hx hb hml hts hown hK hP hD hS hA hZ (X := 10) (by decide) rfl (ckE_some hw_2) (sc_X9_expect l dC dI cB cI cJ cZ cS cO b K V fz F cs1 u0 40 cs_1 hv_1) (cw_X9_X9_expect hts (fr := 1) (Nat.le_of_ble_eq_true rfl) (Nat.le_of_ble_eq_true rfl)) rfl hl.1 (Nat.le_of_ble_eq_true rfl) ⟨Nat.zero_le _, Nat.zero_le _⟩ dX9_readNumber_32 (fun H locs hP hD hS => ?_)
    refine lv_lload_n hx hb dX9_readNumber_35 rfl (lv_at hl 1 rfl) ?_
    obtain ⟨e1, e2⟩ := Prod.mk.inj (Option.some.inj h)
    rw [e1] at hP hD
    exact W.lret (v := u3) hx hb hr (fun t_ ht hW => ⟨⟨u3, (), rfl, e2, by rw [ht]; exact hP, hD⟩, hS.F ht⟩) hS.2.2 dX9_readNumber_36
  have h := hf
  unfold c_X9_readNumber at h
  refine lv_aload_n hx hb dX9_readNumber_0 rfl (lv_at hl 0 rfl) ?_
  replace h := ob h; obtain ⟨w_4, hw_4, h⟩ := h
  replace h := ob h; obtain ⟨v_3, hv_3, h⟩ := h
  refine ccL (As := []) hx hb hml hts hown hK hP hD hS hA hZ (X := 10) (by decide) rfl (ckE_some hw_4) (sc_X9_number l dC dI cB cI cJ cZ cS cO b K V fz F cs x0 v_3 hv_3) (cw_X9_X9_number hts (fr := 0) (Nat.le_of_ble_eq_true rfl) (Nat.le_of_ble_eq_true rfl)) rfl hl.1 (Nat.le_of_ble_eq_true rfl) ⟨Nat.zero_le _, Nat.zero_le _⟩ dX9_readNumber_1 (fun H locs hP hD hS => ?_)
  refine lv_lstore_n (lv' := [(3, .long v_3), (0, .ref (b + x0)), (1, .long x1)]) hx hb dX9_readNumber_4 rfl hl (by decide) rfl (fun ls hl => ?_)
  refine lv_aload_n hx hb dX9_readNumber_5 rfl (lv_at hl 1 rfl) ?_
  replace h := ob h; obtain ⟨w_6, hw_6, h⟩ := h
  replace h := ob h; obtain ⟨v_5, hv_5, h⟩ := h
  refine ccI (As := []) hx hb hml hts hown hK hP hD hS hA hZ (X := 10) (by decide) rfl (ckE_some hw_6) (sc_X9_kind l dC dI cB cI cJ cZ cS cO b K V fz F cs x0 v_5 hv_5) (cw_X9_X9_kind hts (fr := 0) (Nat.le_of_ble_eq_true rfl) (Nat.le_of_ble_eq_true rfl)) rfl hl.1 (Nat.le_of_ble_eq_true rfl) ⟨Nat.zero_le _, Nat.zero_le _⟩ dX9_readNumber_6 (fun H locs hP hD hS => ?_)
  refine lv_bipush (v := 40) hx hb dX9_readNumber_9 (by decide) ?_
  refine lv_icmp_ne (tgt := 29) hx hb dX9_readNumber_11 (by decide) (fun c_7 => ?_) (fun c_7 => ?_)
  · skip
    replace h := (if_neg c_7).symm.trans h
    exact B_29 cs x0 v_3 h _ _ _ hP hD hS (lv_sub hl [1, 0] rfl)
  · skip
    replace h := (if_pos c_7).symm.trans h
    refine lv_lload_n hx hb dX9_readNumber_14 rfl (lv_at hl 0 rfl) ?_
    refine lv_lload_n hx hb dX9_readNumber_15 rfl (lv_at hl 2 rfl) ?_
    refine W.lcmp hx hb dX9_readNumber_16 ?_
    refine lv_if_le (tgt := 29) hx hb dX9_readNumber_17 (by decide) (fun c_8 => ?_) (fun c_8 => ?_)
    · skip
      have c_8 : v_3 ≤ x1 := (lg_cmp_le _ _).mp c_8
      replace h := (if_pos c_8).symm.trans h
      exact B_29 cs x0 v_3 h _ _ _ hP hD hS (lv_sub hl [1, 0] rfl)
    · skip
      have c_8 : ¬ (v_3 ≤ x1) := fun h9 => c_8 ((lg_cmp_le _ _).mpr h9)
      replace h := (if_neg c_8).symm.trans h
      refine lv_aload_n hx hb dX9_readNumber_20 rfl (lv_at hl 1 rfl) ?_
      refine lv_iconst (v := 1) hx hb dX9_readNumber_21 (by decide) ?_
      refine lv_aload_n hx hb dX9_readNumber_22 rfl (lv_at hl 1 rfl) ?_
      replace h := ob h; obtain ⟨w_10, hw_10, h⟩ := h
      replace h := ob h; obtain ⟨v_9, hv_9, h⟩ := h
      refine ccI (As := []) hx hb hml hts hown hK hP hD hS hA hZ (X := 10) (by decide) rfl (ckE_some hw_10) (sc_X9_here l dC dI cB cI cJ cZ cS cO b K V fz F cs x0 v_9 hv_9) (cw_X9_X9_here hts (fr := 0) (Nat.le_of_ble_eq_true rfl) (Nat.le_of_ble_eq_true rfl)) rfl hl.1 (Nat.le_of_ble_eq_true rfl) ⟨Nat.zero_le _, Nat.zero_le _⟩ dX9_readNumber_23 (fun H locs hP hD hS => ?_)
      replace h := ob h; obtain ⟨w_12, hw_12, h⟩ := h
      replace h := ob h; obtain ⟨cs_11, hv_11, h⟩ := h
      refine ccV (As := [.int 1, .int v_9]) hx hb hml hts hown hK hP hD hS hA hZ (X := 10) (by decide) rfl (ckE_some hw_12) (sc_X9_refuse l dC dI cB cI cJ cZ cS cO b K V fz F cs x0 1 v_9 cs_11 hv_11) (cw_X9_X9_refuse hts (fr := 0) (Nat.le_of_ble_eq_true rfl) (Nat.le_of_ble_eq_true rfl)) rfl hl.1 (Nat.le_of_ble_eq_true rfl) ⟨Nat.zero_le _, Nat.zero_le _⟩ dX9_readNumber_26 (fun H locs hP hD hS => ?_)
      exact B_29 cs_11 x0 v_3 h _ _ _ hP hD hS (lv_sub hl [1, 0] rfl)
theorem dX9_beginsSet_0 : decode cX9_beginsSet 0 = .ok (.iload_n 0, 1) := by decide +kernel
theorem dX9_beginsSet_1 : decode cX9_beginsSet 1 = .ok (.bipush 10, 2) := by decide +kernel
theorem dX9_beginsSet_3 : decode cX9_beginsSet 3 = .ok (.if_icmp .eq 15, 3) := by decide +kernel
theorem dX9_beginsSet_6 : decode cX9_beginsSet 6 = .ok (.iload_n 0, 1) := by decide +kernel
theorem dX9_beginsSet_7 : decode cX9_beginsSet 7 = .ok (.bipush 12, 2) := by decide +kernel
theorem dX9_beginsSet_9 : decode cX9_beginsSet 9 = .ok (.if_icmp .eq 9, 3) := by decide +kernel
theorem dX9_beginsSet_12 : decode cX9_beginsSet 12 = .ok (.iload_n 0, 1) := by decide +kernel
theorem dX9_beginsSet_13 : decode cX9_beginsSet 13 = .ok (.bipush 13, 2) := by decide +kernel
theorem dX9_beginsSet_15 : decode cX9_beginsSet 15 = .ok (.if_icmp .ne 7, 3) := by decide +kernel
theorem dX9_beginsSet_18 : decode cX9_beginsSet 18 = .ok (.iconst 1, 1) := by decide +kernel
theorem dX9_beginsSet_19 : decode cX9_beginsSet 19 = .ok (.goto 4, 3) := by decide +kernel
theorem dX9_beginsSet_22 : decode cX9_beginsSet 22 = .ok (.iconst 0, 1) := by decide +kernel
theorem dX9_beginsSet_23 : decode cX9_beginsSet 23 = .ok (.ireturn, 1) := by decide +kernel
def c_X9_beginsSet_b23 (F : Nat) (cs : CS) (y0 : Int32) : Option Int32 := Option.bind (ckZ y0) fun _ => some y0
def c_X9_beginsSet_b18 (F : Nat) (cs : CS) : Option Int32 := c_X9_beginsSet_b23 F cs 1
def c_X9_beginsSet (F : Nat) (cs : CS) (x0 : Int32) : Option Int32 := if x0 = 10 then (c_X9_beginsSet_b18 F cs ) else (if x0 = 12 then (c_X9_beginsSet_b18 F cs ) else (if x0 = 13 then (c_X9_beginsSet_b18 F cs ) else (c_X9_beginsSet_b23 F cs 0)))
theorem cw_X9_X9_beginsSet {R : Room} {s : State} {args : Array Value} {y0 : MethodName} {c0 : ByteArray} {n0 : Nat} {r0 : Option FieldType} (hts : ∀ w ∈ wsOf y0 c0 n0 r0, w.before args s = true) {fr : Nat} (h1 : fr + 1 ≤ R.frames) (h2 : 8 + (1 + 11) + 60 * fr ≤ R.locals) : CallB R s args RX9 133 yX9_beginsSet cX9_beginsSet 1 (some .boolean) (wsOf yX9_beginsSet cX9_beginsSet 1 (some .boolean)) ({ frames := fr, cells := 0, slots := 0, locals := 60 * fr } : Room) 0 0 1 ∧ (Cond.static yX9_beginsSet).before args s = true := ⟨callB_of 1 hts (gd_all (in_I kc_X9_beginsSet)) rfl rfl rfl (hts _ (List.mem_cons_of_mem _ kw_193)) (hts _ (List.mem_cons_of_mem _ kw_1131)) (by decide +kernel) ⟨h1, h2⟩, hts _ (List.mem_cons_of_mem _ kw_1132)⟩
set_option maxHeartbeats 4000000 in
set_option maxRecDepth 100000 in
theorem sc_X9_beginsSet (l : Launch) (dC : Nat → ClassId) (dI : Nat → Nat → Nat) (cB cI cJ cZ cS cO : ClassId) (b : Nat) (K V : Nat → Nat) (fz : Value) (F : Nat) (cs : CS) (x0 : Int32) (r9 : Int32) (hf : c_X9_beginsSet F cs x0 = some r9) : ocI l dC dI cB cI cJ cZ cS cO b K V fz yX9_beginsSet (wsOf yX9_beginsSet cX9_beginsSet 1 (some .boolean)) (0) [.int x0] cs cs r9 := by
  intro sz
  refine Met.ofW (cc := cX9_beginsSet) (maxL := 1) (ret := (some .boolean)) (by decide) rfl ?_
  intro p e s m args below meth c s₁ B hml hv
  obtain ⟨rfl, hsz, hP, hK, hD0, hZ⟩ := hv
  have hx := B.exec
  have hb := B.bytes
  have hr := B.returns
  have hts := atoms_spec (ws := (wsOf yX9_beginsSet cX9_beginsSet 1 (some .boolean))) B.pre
  have hown : s.vm.findClass RX9 = some m.cls := findClass_of_methodNamed B.named
  have hlocks := B.notSynchronized
  subst hsz
  have hD := hD0.self (sz := s.heap.size)
  generalize hAe : va_A (cW cB cI cJ cZ cS cO b cs) s.heap.size = A at hD hZ ⊢
  have hA : ∀ q : Nat, s.heap.size ≤ q → A q := fun q h => by rw [← hAe]; exact Or.inr h
  have hS : va_S A s.heap s.heap [] := va_S.rf
  have hl := lv_entry ([.int x0]) (n := 1) (Nat.le_of_ble_eq_true rfl)
  rw [lg_entry_eq]
  generalize (lg_sl ([.int x0]) ++ List.replicate (1 - (lg_sl ([.int x0])).length) Slot.unset).toArray = ls at hl ⊢
  have hl : lv_has ls 1 [(0, .int x0)] := hl
  have B_23 : ∀ (y0 : Int32), c_X9_beginsSet_b23 F cs y0 = some r9 → ∀ (H : Heap) (locs : List Loc) (ls : Array Slot), va_P (dC, dI) vwCl (cW cB cI cJ cZ cS cO b cs) H → va_D A (cW cB cI cJ cZ cS cO b cs) → va_S A s.heap H locs → lv_has ls 1 [] → W p l e (headSpec (wsOf yX9_beginsSet cX9_beginsSet 1 (some .boolean)) ({ frames := 0, cells := 0, slots := 0, locals := 60 * (0) } : Room)).room s m ([.int x0] : List Value).toArray below meth c H locs 0 0 (MQ below (va_Qi (fun (x : Int32) (_ : Unit) => x = r9) (fun _ t_ => va_P (dC, dI) vwCl (cW cB cI cJ cZ cS cO b cs) t_.heap ∧ va_D A (cW cB cI cJ cZ cS cO b cs)) A) ([.int x0] : List Value).toArray s 0 0 A) (F0 m 23 ls [.int y0]) := by
    intro y0 h H locs ls hP hD hS hl
    unfold c_X9_beginsSet_b23 at h
    replace h := ob h; obtain ⟨w_1, hw_1, h⟩ := h
    have e2 := Option.some.inj h
    exact W.zret (v := y0) hx hb hr (nzN (ckZ_some hw_1)) (fun t_ ht hW => ⟨⟨y0, (), rfl, e2, by rw [ht]; exact hP, hD⟩, hS.F ht⟩) hS.2.2 dX9_beginsSet_23
  have B_18 : c_X9_beginsSet_b18 F cs = some r9 → ∀ (H : Heap) (locs : List Loc) (ls : Array Slot), va_P (dC, dI) vwCl (cW cB cI cJ cZ cS cO b cs) H → va_D A (cW cB cI cJ cZ cS cO b cs) → va_S A s.heap H locs → lv_has ls 1 [] → W p l e (headSpec (wsOf yX9_beginsSet cX9_beginsSet 1 (some .boolean)) ({ frames := 0, cells := 0, slots := 0, locals := 60 * (0) } : Room)).room s m ([.int x0] : List Value).toArray below meth c H locs 0 0 (MQ below (va_Qi (fun (x : Int32) (_ : Unit) => x = r9) (fun _ t_ => va_P (dC, dI) vwCl (cW cB cI cJ cZ cS cO b cs) t_.heap ∧ va_D A (cW cB cI cJ cZ cS cO b cs)) A) ([.int x0] : List Value).toArray s 0 0 A) (F0 m 18 ls []) := by
    intro  h H locs ls hP hD hS hl
    unfold c_X9_beginsSet_b18 at h
    refine lv_iconst (v := 1) hx hb dX9_beginsSet_18 (by decide) ?_
    refine lv_goto (tgt := 23) hx hb dX9_beginsSet_19 (by decide) ?_
    exact B_23 1 h _ _ _ hP hD hS (lv_sub hl [] rfl)
  have h := hf
  unfold c_X9_beginsSet at h
  refine lv_iload_n hx hb dX9_beginsSet_0 rfl (lv_at hl 0 rfl) ?_
  refine lv_bipush (v := 10) hx hb dX9_beginsSet_1 (by decide) ?_
  refine lv_icmp_eq (tgt := 18) hx hb dX9_beginsSet_3 (by decide) (fun c_2 => ?_) (fun c_2 => ?_)
  · skip
    replace h := (if_pos c_2).symm.trans h
    exact B_18  h _ _ _ hP hD hS (lv_sub hl [] rfl)
  · skip
    replace h := (if_neg c_2).symm.trans h
    refine lv_iload_n hx hb dX9_beginsSet_6 rfl (lv_at hl 0 rfl) ?_
    refine lv_bipush (v := 12) hx hb dX9_beginsSet_7 (by decide) ?_
    refine lv_icmp_eq (tgt := 18) hx hb dX9_beginsSet_9 (by decide) (fun c_3 => ?_) (fun c_3 => ?_)
    · skip
      replace h := (if_pos c_3).symm.trans h
      exact B_18  h _ _ _ hP hD hS (lv_sub hl [] rfl)
    · skip
      replace h := (if_neg c_3).symm.trans h
      refine lv_iload_n hx hb dX9_beginsSet_12 rfl (lv_at hl 0 rfl) ?_
      refine lv_bipush (v := 13) hx hb dX9_beginsSet_13 (by decide) ?_
      refine lv_icmp_ne (tgt := 22) hx hb dX9_beginsSet_15 (by decide) (fun c_4 => ?_) (fun c_4 => ?_)
      · skip
        replace h := (if_neg c_4).symm.trans h
        refine lv_iconst (v := 0) hx hb dX9_beginsSet_22 (by decide) ?_
        exact B_23 0 h _ _ _ hP hD hS (lv_sub hl [] rfl)
      · skip
        replace h := (if_pos c_4).symm.trans h
        exact B_18  h _ _ _ hP hD hS (lv_sub hl [] rfl)
theorem dX9_beginsExpr_0 : decode cX9_beginsExpr 0 = .ok (.iload_n 1, 1) := by decide +kernel
theorem dX9_beginsExpr_1 : decode cX9_beginsExpr 1 = .ok (.tableswitch 136 19 46 #[127, 136, 136, 136, 136, 136, 129, 127, 136, 136, 136, 127, 127, 131, 131, 131, 131, 127, 136, 127, 127, 127, 127, 136, 136, 136, 136, 127], 127) := by decide +kernel
theorem dX9_beginsExpr_128 : decode cX9_beginsExpr 128 = .ok (.iconst 1, 1) := by decide +kernel
theorem dX9_beginsExpr_129 : decode cX9_beginsExpr 129 = .ok (.ireturn, 1) := by decide +kernel
theorem dX9_beginsExpr_130 : decode cX9_beginsExpr 130 = .ok (.iload_n 2, 1) := by decide +kernel
theorem dX9_beginsExpr_131 : decode cX9_beginsExpr 131 = .ok (.ireturn, 1) := by decide +kernel
theorem dX9_beginsExpr_132 : decode cX9_beginsExpr 132 = .ok (.aload_n 0, 1) := by decide +kernel
theorem dX9_beginsExpr_133 : decode cX9_beginsExpr 133 = .ok (.getfield 163, 3) := by decide +kernel
theorem dX9_beginsExpr_136 : decode cX9_beginsExpr 136 = .ok (.ireturn, 1) := by decide +kernel
theorem dX9_beginsExpr_137 : decode cX9_beginsExpr 137 = .ok (.iconst 0, 1) := by decide +kernel
theorem dX9_beginsExpr_138 : decode cX9_beginsExpr 138 = .ok (.ireturn, 1) := by decide +kernel
def c_X9_beginsExpr_b128 (F : Nat) (cs : CS) : Option Int32 := some 1
def c_X9_beginsExpr_b132 (F : Nat) (cs : CS) (u0 : Nat) : Option Int32 := Option.bind (gI cs 10 331 u0) fun v_1 => Option.bind (ckZ v_1) fun _ => some v_1
def c_X9_beginsExpr_b137 (F : Nat) (cs : CS) : Option Int32 := some 0
def c_X9_beginsExpr (F : Nat) (cs : CS) (x0 : Nat) (x1 : Int32) (x2 : Int32) : Option Int32 := if x1 = 19 then (c_X9_beginsExpr_b128 F cs ) else (if x1 = 25 then (Option.bind (ckZ x2) fun _ => some x2) else (if x1 = 26 then (c_X9_beginsExpr_b128 F cs ) else (if x1 = 30 then (c_X9_beginsExpr_b128 F cs ) else (if x1 = 31 then (c_X9_beginsExpr_b128 F cs ) else (if x1 = 32 then (c_X9_beginsExpr_b132 F cs x0) else (if x1 = 33 then (c_X9_beginsExpr_b132 F cs x0) else (if x1 = 34 then (c_X9_beginsExpr_b132 F cs x0) else (if x1 = 35 then (c_X9_beginsExpr_b132 F cs x0) else (if x1 = 36 then (c_X9_beginsExpr_b128 F cs ) else (if x1 = 38 then (c_X9_beginsExpr_b128 F cs ) else (if x1 = 39 then (c_X9_beginsExpr_b128 F cs ) else (if x1 = 40 then (c_X9_beginsExpr_b128 F cs ) else (if x1 = 41 then (c_X9_beginsExpr_b128 F cs ) else (if x1 = 46 then (c_X9_beginsExpr_b128 F cs ) else (c_X9_beginsExpr_b137 F cs )))))))))))))))
theorem cw_X9_X9_beginsExpr {R : Room} {s : State} {args : Array Value} {y0 : MethodName} {c0 : ByteArray} {n0 : Nat} {r0 : Option FieldType} (hts : ∀ w ∈ wsOf y0 c0 n0 r0, w.before args s = true) {fr : Nat} (h1 : fr + 1 ≤ R.frames) (h2 : 8 + (3 + 11) + 60 * fr ≤ R.locals) : CallW R s args RX9 RX9 194 yX9_beginsExpr cX9_beginsExpr 3 (some .boolean) (wsOf yX9_beginsExpr cX9_beginsExpr 3 (some .boolean)) ({ frames := fr, cells := 0, slots := 0, locals := 60 * fr } : Room) 0 0 2 := cwV 2 hts (gd_all (in_V kw_943 kw_945 kw_19 kw_193 kc_X9_beginsExpr)) rfl rfl rfl (by decide +kernel) ⟨h1, h2⟩
set_option maxHeartbeats 4000000 in
set_option maxRecDepth 100000 in
theorem sc_X9_beginsExpr (l : Launch) (dC : Nat → ClassId) (dI : Nat → Nat → Nat) (cB cI cJ cZ cS cO : ClassId) (b : Nat) (K V : Nat → Nat) (fz : Value) (F : Nat) (cs : CS) (x0 : Nat) (x1 : Int32) (x2 : Int32) (r9 : Int32) (hf : c_X9_beginsExpr F cs x0 x1 x2 = some r9) : ocI l dC dI cB cI cJ cZ cS cO b K V fz yX9_beginsExpr (wsOf yX9_beginsExpr cX9_beginsExpr 3 (some .boolean)) (0) [.ref (b + x0), .int x1, .int x2] cs cs r9 := by
  intro sz
  refine Met.ofW (cc := cX9_beginsExpr) (maxL := 3) (ret := (some .boolean)) (by decide) rfl ?_
  intro p e s m args below meth c s₁ B hml hv
  obtain ⟨rfl, hsz, hP, hK, hD0, hZ⟩ := hv
  have hx := B.exec
  have hb := B.bytes
  have hr := B.returns
  have hts := atoms_spec (ws := (wsOf yX9_beginsExpr cX9_beginsExpr 3 (some .boolean))) B.pre
  have hown : s.vm.findClass RX9 = some m.cls := findClass_of_methodNamed B.named
  have hlocks := B.notSynchronized
  subst hsz
  have hD := hD0.self (sz := s.heap.size)
  generalize hAe : va_A (cW cB cI cJ cZ cS cO b cs) s.heap.size = A at hD hZ ⊢
  have hA : ∀ q : Nat, s.heap.size ≤ q → A q := fun q h => by rw [← hAe]; exact Or.inr h
  have hS : va_S A s.heap s.heap [] := va_S.rf
  have hl := lv_entry ([.ref (b + x0), .int x1, .int x2]) (n := 3) (Nat.le_of_ble_eq_true rfl)
  rw [lg_entry_eq]
  generalize (lg_sl ([.ref (b + x0), .int x1, .int x2]) ++ List.replicate (3 - (lg_sl ([.ref (b + x0), .int x1, .int x2])).length) Slot.unset).toArray = ls at hl ⊢
  have hl : lv_has ls 3 [(0, .ref (b + x0)), (1, .int x1), (2, .int x2)] := hl
  have B_128 : c_X9_beginsExpr_b128 F cs = some r9 → ∀ (H : Heap) (locs : List Loc) (ls : Array Slot), va_P (dC, dI) vwCl (cW cB cI cJ cZ cS cO b cs) H → va_D A (cW cB cI cJ cZ cS cO b cs) → va_S A s.heap H locs → lv_has ls 3 [] → W p l e (headSpec (wsOf yX9_beginsExpr cX9_beginsExpr 3 (some .boolean)) ({ frames := 0, cells := 0, slots := 0, locals := 60 * (0) } : Room)).room s m ([.ref (b + x0), .int x1, .int x2] : List Value).toArray below meth c H locs 0 0 (MQ below (va_Qi (fun (x : Int32) (_ : Unit) => x = r9) (fun _ t_ => va_P (dC, dI) vwCl (cW cB cI cJ cZ cS cO b cs) t_.heap ∧ va_D A (cW cB cI cJ cZ cS cO b cs)) A) ([.ref (b + x0), .int x1, .int x2] : List Value).toArray s 0 0 A) (F0 m 128 ls []) := by
    intro  h H locs ls hP hD hS hl
    unfold c_X9_beginsExpr_b128 at h
    refine lv_iconst (v := 1) hx hb dX9_beginsExpr_128 (by decide) ?_
    have e2 := Option.some.inj h
    exact W.zret (v := 1) hx hb hr (nzN (Or.inr rfl)) (fun t_ ht hW => ⟨⟨1, (), rfl, e2, by rw [ht]; exact hP, hD⟩, hS.F ht⟩) hS.2.2 dX9_beginsExpr_129
  have B_132 : ∀ (u0 : Nat), c_X9_beginsExpr_b132 F cs u0 = some r9 → ∀ (H : Heap) (locs : List Loc) (ls : Array Slot), va_P (dC, dI) vwCl (cW cB cI cJ cZ cS cO b cs) H → va_D A (cW cB cI cJ cZ cS cO b cs) → va_S A s.heap H locs → lv_has ls 3 [(0, .ref (b + u0))] → W p l e (headSpec (wsOf yX9_beginsExpr cX9_beginsExpr 3 (some .boolean)) ({ frames := 0, cells := 0, slots := 0, locals := 60 * (0) } : Room)).room s m ([.ref (b + x0), .int x1, .int x2] : List Value).toArray below meth c H locs 0 0 (MQ below (va_Qi (fun (x : Int32) (_ : Unit) => x = r9) (fun _ t_ => va_P (dC, dI) vwCl (cW cB cI cJ cZ cS cO b cs) t_.heap ∧ va_D A (cW cB cI cJ cZ cS cO b cs)) A) ([.ref (b + x0), .int x1, .int x2] : List Value).toArray s 0 0 A) (F0 m 132 ls []) := by
    intro u0 h H locs ls hP hD hS hl
    unfold c_X9_beginsExpr_b132 at h
    refine lv_aload_n hx hb dX9_beginsExpr_132 rfl (lv_at hl 0 rfl) ?_
    replace h := ob h; obtain ⟨v_1, hv_1, h⟩ := h
    refine fg_X9_163 hx hb hts hown hK hP hv_1 dX9_beginsExpr_133 ?_
    replace h := ob h; obtain ⟨w_2, hw_2, h⟩ := h
    have e2 := Option.some.inj h
    exact W.zret (v := v_1) hx hb hr (nzN (ckZ_some hw_2)) (fun t_ ht hW => ⟨⟨v_1, (), rfl, e2, by rw [ht]; exact hP, hD⟩, hS.F ht⟩) hS.2.2 dX9_beginsExpr_136
  have B_137 : c_X9_beginsExpr_b137 F cs = some r9 → ∀ (H : Heap) (locs : List Loc) (ls : Array Slot), va_P (dC, dI) vwCl (cW cB cI cJ cZ cS cO b cs) H → va_D A (cW cB cI cJ cZ cS cO b cs) → va_S A s.heap H locs → lv_has ls 3 [] → W p l e (headSpec (wsOf yX9_beginsExpr cX9_beginsExpr 3 (some .boolean)) ({ frames := 0, cells := 0, slots := 0, locals := 60 * (0) } : Room)).room s m ([.ref (b + x0), .int x1, .int x2] : List Value).toArray below meth c H locs 0 0 (MQ below (va_Qi (fun (x : Int32) (_ : Unit) => x = r9) (fun _ t_ => va_P (dC, dI) vwCl (cW cB cI cJ cZ cS cO b cs) t_.heap ∧ va_D A (cW cB cI cJ cZ cS cO b cs)) A) ([.ref (b + x0), .int x1, .int x2] : List Value).toArray s 0 0 A) (F0 m 137 ls []) := by
    intro  h H locs ls hP hD hS hl
    unfold c_X9_beginsExpr_b137 at h
    refine lv_iconst (v := 0) hx hb dX9_beginsExpr_137 (by decide) ?_
    have e2 := Option.some.inj h
    exact W.zret (v := 0) hx hb hr (nzN (Or.inl rfl)) (fun t_ ht hW => ⟨⟨0, (), rfl, e2, by rw [ht]; exact hP, hD⟩, hS.F ht⟩) hS.2.2 dX9_beginsExpr_138
  have h := hf
  unfold c_X9_beginsExpr at h
  refine lv_iload_n hx hb dX9_beginsExpr_0 rfl (lv_at hl 1 rfl) ?_
  by_cases c_3 : x1 = 19
  · skip
    replace h := (if_pos c_3).symm.trans h
    refine lv_tableIn (tgt := 128) (off := 127) hx hb dX9_beginsExpr_1 (by rw [c_3]; decide) (by rw [c_3]; decide) (by rw [c_3]; decide) (by decide) ?_
    exact B_128  h _ _ _ hP hD hS (lv_sub hl [] rfl)
  replace h := (if_neg c_3).symm.trans h
  by_cases c_4 : x1 = 25
  · skip
    replace h := (if_pos c_4).symm.trans h
    refine lv_tableIn (tgt := 130) (off := 129) hx hb dX9_beginsExpr_1 (by rw [c_4]; decide) (by rw [c_4]; decide) (by rw [c_4]; decide) (by decide) ?_
    refine lv_iload_n hx hb dX9_beginsExpr_130 rfl (lv_at hl 2 rfl) ?_
    replace h := ob h; obtain ⟨w_5, hw_5, h⟩ := h
    have e2 := Option.some.inj h
    exact W.zret (v := x2) hx hb hr (nzN (ckZ_some hw_5)) (fun t_ ht hW => ⟨⟨x2, (), rfl, e2, by rw [ht]; exact hP, hD⟩, hS.F ht⟩) hS.2.2 dX9_beginsExpr_131
  replace h := (if_neg c_4).symm.trans h
  by_cases c_6 : x1 = 26
  · skip
    replace h := (if_pos c_6).symm.trans h
    refine lv_tableIn (tgt := 128) (off := 127) hx hb dX9_beginsExpr_1 (by rw [c_6]; decide) (by rw [c_6]; decide) (by rw [c_6]; decide) (by decide) ?_
    exact B_128  h _ _ _ hP hD hS (lv_sub hl [] rfl)
  replace h := (if_neg c_6).symm.trans h
  by_cases c_7 : x1 = 30
  · skip
    replace h := (if_pos c_7).symm.trans h
    refine lv_tableIn (tgt := 128) (off := 127) hx hb dX9_beginsExpr_1 (by rw [c_7]; decide) (by rw [c_7]; decide) (by rw [c_7]; decide) (by decide) ?_
    exact B_128  h _ _ _ hP hD hS (lv_sub hl [] rfl)
  replace h := (if_neg c_7).symm.trans h
  by_cases c_8 : x1 = 31
  · skip
    replace h := (if_pos c_8).symm.trans h
    refine lv_tableIn (tgt := 128) (off := 127) hx hb dX9_beginsExpr_1 (by rw [c_8]; decide) (by rw [c_8]; decide) (by rw [c_8]; decide) (by decide) ?_
    exact B_128  h _ _ _ hP hD hS (lv_sub hl [] rfl)
  replace h := (if_neg c_8).symm.trans h
  by_cases c_9 : x1 = 32
  · skip
    replace h := (if_pos c_9).symm.trans h
    refine lv_tableIn (tgt := 132) (off := 131) hx hb dX9_beginsExpr_1 (by rw [c_9]; decide) (by rw [c_9]; decide) (by rw [c_9]; decide) (by decide) ?_
    exact B_132 x0 h _ _ _ hP hD hS (lv_sub hl [0] rfl)
  replace h := (if_neg c_9).symm.trans h
  by_cases c_10 : x1 = 33
  · skip
    replace h := (if_pos c_10).symm.trans h
    refine lv_tableIn (tgt := 132) (off := 131) hx hb dX9_beginsExpr_1 (by rw [c_10]; decide) (by rw [c_10]; decide) (by rw [c_10]; decide) (by decide) ?_
    exact B_132 x0 h _ _ _ hP hD hS (lv_sub hl [0] rfl)
  replace h := (if_neg c_10).symm.trans h
  by_cases c_11 : x1 = 34
  · skip
    replace h := (if_pos c_11).symm.trans h
    refine lv_tableIn (tgt := 132) (off := 131) hx hb dX9_beginsExpr_1 (by rw [c_11]; decide) (by rw [c_11]; decide) (by rw [c_11]; decide) (by decide) ?_
    exact B_132 x0 h _ _ _ hP hD hS (lv_sub hl [0] rfl)
  replace h := (if_neg c_11).symm.trans h
  by_cases c_12 : x1 = 35
  · skip
    replace h := (if_pos c_12).symm.trans h
    refine lv_tableIn (tgt := 132) (off := 131) hx hb dX9_beginsExpr_1 (by rw [c_12]; decide) (by rw [c_12]; decide) (by rw [c_12]; decide) (by decide) ?_
    exact B_132 x0 h _ _ _ hP hD hS (lv_sub hl [0] rfl)
  replace h := (if_neg c_12).symm.trans h
  by_cases c_13 : x1 = 36
  · skip
    replace h := (if_pos c_13).symm.trans h
    refine lv_tableIn (tgt := 128) (off := 127) hx hb dX9_beginsExpr_1 (by rw [c_13]; decide) (by rw [c_13]; decide) (by rw [c_13]; decide) (by decide) ?_
    exact B_128  h _ _ _ hP hD hS (lv_sub hl [] rfl)
  replace h := (if_neg c_13).symm.trans h
  by_cases c_14 : x1 = 38
  · skip
    replace h := (if_pos c_14).symm.trans h
    refine lv_tableIn (tgt := 128) (off := 127) hx hb dX9_beginsExpr_1 (by rw [c_14]; decide) (by rw [c_14]; decide) (by rw [c_14]; decide) (by decide) ?_
    exact B_128  h _ _ _ hP hD hS (lv_sub hl [] rfl)
  replace h := (if_neg c_14).symm.trans h
  by_cases c_15 : x1 = 39
  · skip
    replace h := (if_pos c_15).symm.trans h
    refine lv_tableIn (tgt := 128) (off := 127) hx hb dX9_beginsExpr_1 (by rw [c_15]; decide) (by rw [c_15]; decide) (by rw [c_15]; decide) (by decide) ?_
    exact B_128  h _ _ _ hP hD hS (lv_sub hl [] rfl)
  replace h := (if_neg c_15).symm.trans h
  by_cases c_16 : x1 = 40
  · skip
    replace h := (if_pos c_16).symm.trans h
    refine lv_tableIn (tgt := 128) (off := 127) hx hb dX9_beginsExpr_1 (by rw [c_16]; decide) (by rw [c_16]; decide) (by rw [c_16]; decide) (by decide) ?_
    exact B_128  h _ _ _ hP hD hS (lv_sub hl [] rfl)
  replace h := (if_neg c_16).symm.trans h
  by_cases c_17 : x1 = 41
  · skip
    replace h := (if_pos c_17).symm.trans h
    refine lv_tableIn (tgt := 128) (off := 127) hx hb dX9_beginsExpr_1 (by rw [c_17]; decide) (by rw [c_17]; decide) (by rw [c_17]; decide) (by decide) ?_
    exact B_128  h _ _ _ hP hD hS (lv_sub hl [] rfl)
  replace h := (if_neg c_17).symm.trans h
  by_cases c_18 : x1 = 46
  · skip
    replace h := (if_pos c_18).symm.trans h
    refine lv_tableIn (tgt := 128) (off := 127) hx hb dX9_beginsExpr_1 (by rw [c_18]; decide) (by rw [c_18]; decide) (by rw [c_18]; decide) (by decide) ?_
    exact B_128  h _ _ _ hP hD hS (lv_sub hl [] rfl)
  replace h := (if_neg c_18).symm.trans h
  have n_3 : ¬ (x1 : Int32).toInt = 19 := lv_neT c_3 (by decide)
  have n_4 : ¬ (x1 : Int32).toInt = 25 := lv_neT c_4 (by decide)
  have n_6 : ¬ (x1 : Int32).toInt = 26 := lv_neT c_6 (by decide)
  have n_7 : ¬ (x1 : Int32).toInt = 30 := lv_neT c_7 (by decide)
  have n_8 : ¬ (x1 : Int32).toInt = 31 := lv_neT c_8 (by decide)
  have n_9 : ¬ (x1 : Int32).toInt = 32 := lv_neT c_9 (by decide)
  have n_10 : ¬ (x1 : Int32).toInt = 33 := lv_neT c_10 (by decide)
  have n_11 : ¬ (x1 : Int32).toInt = 34 := lv_neT c_11 (by decide)
  have n_12 : ¬ (x1 : Int32).toInt = 35 := lv_neT c_12 (by decide)
  have n_13 : ¬ (x1 : Int32).toInt = 36 := lv_neT c_13 (by decide)
  have n_14 : ¬ (x1 : Int32).toInt = 38 := lv_neT c_14 (by decide)
  have n_15 : ¬ (x1 : Int32).toInt = 39 := lv_neT c_15 (by decide)
  have n_16 : ¬ (x1 : Int32).toInt = 40 := lv_neT c_16 (by decide)
  have n_17 : ¬ (x1 : Int32).toInt = 41 := lv_neT c_17 (by decide)
  have n_18 : ¬ (x1 : Int32).toInt = 46 := lv_neT c_18 (by decide)
  by_cases hq_1 : (x1 : Int32).toInt < 19 ∨ 46 < (x1 : Int32).toInt
  · skip
    refine lv_tableOut (tgt := 137) hx hb dX9_beginsExpr_1 hq_1 (by decide) ?_
    exact B_137  h _ _ _ hP hD hS (lv_sub hl [] rfl)
  by_cases hq_1_20 : (x1 : Int32).toInt = 20
  · skip
    refine lv_tableIn (tgt := 137) (off := 136) hx hb dX9_beginsExpr_1 (by omega) (by omega) (by rw [hq_1_20]; decide) (by decide) ?_
    exact B_137  h _ _ _ hP hD hS (lv_sub hl [] rfl)
  by_cases hq_1_21 : (x1 : Int32).toInt = 21
  · skip
    refine lv_tableIn (tgt := 137) (off := 136) hx hb dX9_beginsExpr_1 (by omega) (by omega) (by rw [hq_1_21]; decide) (by decide) ?_
    exact B_137  h _ _ _ hP hD hS (lv_sub hl [] rfl)
  by_cases hq_1_22 : (x1 : Int32).toInt = 22
  · skip
    refine lv_tableIn (tgt := 137) (off := 136) hx hb dX9_beginsExpr_1 (by omega) (by omega) (by rw [hq_1_22]; decide) (by decide) ?_
    exact B_137  h _ _ _ hP hD hS (lv_sub hl [] rfl)
  by_cases hq_1_23 : (x1 : Int32).toInt = 23
  · skip
    refine lv_tableIn (tgt := 137) (off := 136) hx hb dX9_beginsExpr_1 (by omega) (by omega) (by rw [hq_1_23]; decide) (by decide) ?_
    exact B_137  h _ _ _ hP hD hS (lv_sub hl [] rfl)
  by_cases hq_1_24 : (x1 : Int32).toInt = 24
  · skip
    refine lv_tableIn (tgt := 137) (off := 136) hx hb dX9_beginsExpr_1 (by omega) (by omega) (by rw [hq_1_24]; decide) (by decide) ?_
    exact B_137  h _ _ _ hP hD hS (lv_sub hl [] rfl)
  by_cases hq_1_27 : (x1 : Int32).toInt = 27
  · skip
    refine lv_tableIn (tgt := 137) (off := 136) hx hb dX9_beginsExpr_1 (by omega) (by omega) (by rw [hq_1_27]; decide) (by decide) ?_
    exact B_137  h _ _ _ hP hD hS (lv_sub hl [] rfl)
  by_cases hq_1_28 : (x1 : Int32).toInt = 28
  · skip
    refine lv_tableIn (tgt := 137) (off := 136) hx hb dX9_beginsExpr_1 (by omega) (by omega) (by rw [hq_1_28]; decide) (by decide) ?_
    exact B_137  h _ _ _ hP hD hS (lv_sub hl [] rfl)
  by_cases hq_1_29 : (x1 : Int32).toInt = 29
  · skip
    refine lv_tableIn (tgt := 137) (off := 136) hx hb dX9_beginsExpr_1 (by omega) (by omega) (by rw [hq_1_29]; decide) (by decide) ?_
    exact B_137  h _ _ _ hP hD hS (lv_sub hl [] rfl)
  by_cases hq_1_37 : (x1 : Int32).toInt = 37
  · skip
    refine lv_tableIn (tgt := 137) (off := 136) hx hb dX9_beginsExpr_1 (by omega) (by omega) (by rw [hq_1_37]; decide) (by decide) ?_
    exact B_137  h _ _ _ hP hD hS (lv_sub hl [] rfl)
  by_cases hq_1_42 : (x1 : Int32).toInt = 42
  · skip
    refine lv_tableIn (tgt := 137) (off := 136) hx hb dX9_beginsExpr_1 (by omega) (by omega) (by rw [hq_1_42]; decide) (by decide) ?_
    exact B_137  h _ _ _ hP hD hS (lv_sub hl [] rfl)
  by_cases hq_1_43 : (x1 : Int32).toInt = 43
  · skip
    refine lv_tableIn (tgt := 137) (off := 136) hx hb dX9_beginsExpr_1 (by omega) (by omega) (by rw [hq_1_43]; decide) (by decide) ?_
    exact B_137  h _ _ _ hP hD hS (lv_sub hl [] rfl)
  by_cases hq_1_44 : (x1 : Int32).toInt = 44
  · skip
    refine lv_tableIn (tgt := 137) (off := 136) hx hb dX9_beginsExpr_1 (by omega) (by omega) (by rw [hq_1_44]; decide) (by decide) ?_
    exact B_137  h _ _ _ hP hD hS (lv_sub hl [] rfl)
  by_cases hq_1_45 : (x1 : Int32).toInt = 45
  · skip
    refine lv_tableIn (tgt := 137) (off := 136) hx hb dX9_beginsExpr_1 (by omega) (by omega) (by rw [hq_1_45]; decide) (by decide) ?_
    exact B_137  h _ _ _ hP hD hS (lv_sub hl [] rfl)
  exfalso
  omega
theorem dX9_refuseNinth_0 : decode cX9_refuseNinth 0 = .ok (.iload_n 1, 1) := by decide +kernel
theorem dX9_refuseNinth_1 : decode cX9_refuseNinth 1 = .ok (.ifCond .eq 29, 3) := by decide +kernel
theorem dX9_refuseNinth_4 : decode cX9_refuseNinth 4 = .ok (.aload_n 0, 1) := by decide +kernel
theorem dX9_refuseNinth_5 : decode cX9_refuseNinth 5 = .ok (.aload_n 0, 1) := by decide +kernel
theorem dX9_refuseNinth_6 : decode cX9_refuseNinth 6 = .ok (.aload_n 0, 1) := by decide +kernel
theorem dX9_refuseNinth_7 : decode cX9_refuseNinth 7 = .ok (.invokevirtual 114, 3) := by decide +kernel
theorem dX9_refuseNinth_10 : decode cX9_refuseNinth 10 = .ok (.iload_n 2, 1) := by decide +kernel
theorem dX9_refuseNinth_11 : decode cX9_refuseNinth 11 = .ok (.invokevirtual 194, 3) := by decide +kernel
theorem dX9_refuseNinth_14 : decode cX9_refuseNinth 14 = .ok (.ifCond .eq 8, 3) := by decide +kernel
theorem dX9_refuseNinth_17 : decode cX9_refuseNinth 17 = .ok (.bipush 7, 2) := by decide +kernel
theorem dX9_refuseNinth_19 : decode cX9_refuseNinth 19 = .ok (.goto 4, 3) := by decide +kernel
theorem dX9_refuseNinth_22 : decode cX9_refuseNinth 22 = .ok (.iconst 1, 1) := by decide +kernel
theorem dX9_refuseNinth_23 : decode cX9_refuseNinth 23 = .ok (.aload_n 0, 1) := by decide +kernel
theorem dX9_refuseNinth_24 : decode cX9_refuseNinth 24 = .ok (.invokevirtual 118, 3) := by decide +kernel
theorem dX9_refuseNinth_27 : decode cX9_refuseNinth 27 = .ok (.invokevirtual 121, 3) := by decide +kernel
theorem dX9_refuseNinth_30 : decode cX9_refuseNinth 30 = .ok (.return_, 1) := by decide +kernel
def c_X9_refuseNinth_b30 (F : Nat) (cs1 : CS) : Option CS := some cs1
def c_X9_refuseNinth_b23 (F : Nat) (cs1 : CS) (u0 : Nat) (y0 : Int32) (y1 : Nat) : Option CS := Option.bind (ckE cs1 10 u0) fun _ => Option.bind (c_X9_here F cs1 u0) fun v_1 => Option.bind (ckE cs1 10 y1) fun _ => Option.bind (c_X9_refuse F cs1 y1 y0 v_1) fun cs_3 => c_X9_refuseNinth_b30 F cs_3
def c_X9_refuseNinth (F : Nat) (cs : CS) (x0 : Nat) (x1 : Int32) (x2 : Int32) : Option CS := if x1 = 0 then (c_X9_refuseNinth_b30 F cs) else (Option.bind (ckE cs 10 x0) fun _ => Option.bind (c_X9_kind F cs x0) fun v_6 => Option.bind (ckE cs 10 x0) fun _ => Option.bind (c_X9_beginsExpr F cs x0 v_6 x2) fun v_8 => if v_8 = 0 then (c_X9_refuseNinth_b23 F cs x0 1 x0) else (c_X9_refuseNinth_b23 F cs x0 7 x0))
theorem cw_X9_X9_refuseNinth {R : Room} {s : State} {args : Array Value} {y0 : MethodName} {c0 : ByteArray} {n0 : Nat} {r0 : Option FieldType} (hts : ∀ w ∈ wsOf y0 c0 n0 r0, w.before args s = true) {fr : Nat} (h1 : fr + 1 ≤ R.frames) (h2 : 8 + (3 + 11) + 60 * fr ≤ R.locals) : CallW R s args RX9 RX9 170 yX9_refuseNinth cX9_refuseNinth 3 none (wsOf yX9_refuseNinth cX9_refuseNinth 3 none) ({ frames := fr, cells := 0, slots := 0, locals := 60 * fr } : Room) 0 0 2 := cwV 2 hts (gd_all (in_V kw_939 kw_941 kw_18 kw_193 kc_X9_refuseNinth)) rfl rfl rfl (by decide +kernel) ⟨h1, h2⟩
set_option maxHeartbeats 4000000 in
set_option maxRecDepth 100000 in
theorem sc_X9_refuseNinth (l : Launch) (dC : Nat → ClassId) (dI : Nat → Nat → Nat) (cB cI cJ cZ cS cO : ClassId) (b : Nat) (K V : Nat → Nat) (fz : Value) (F : Nat) (cs : CS) (x0 : Nat) (x1 : Int32) (x2 : Int32) (cs9 : CS) (hf : c_X9_refuseNinth F cs x0 x1 x2 = some cs9) : ocV l dC dI cB cI cJ cZ cS cO b K V fz yX9_refuseNinth (wsOf yX9_refuseNinth cX9_refuseNinth 3 none) (1) [.ref (b + x0), .int x1, .int x2] cs cs9 := by
  intro sz
  refine Met.ofW (cc := cX9_refuseNinth) (maxL := 3) (ret := none) (by decide) rfl ?_
  intro p e s m args below meth c s₁ B hml hv
  obtain ⟨rfl, hsz, hP, hK, hD0, hZ⟩ := hv
  have hx := B.exec
  have hb := B.bytes
  have hr := B.returns
  have hts := atoms_spec (ws := (wsOf yX9_refuseNinth cX9_refuseNinth 3 none)) B.pre
  have hown : s.vm.findClass RX9 = some m.cls := findClass_of_methodNamed B.named
  have hlocks := B.notSynchronized
  subst hsz
  have hD := hD0.self (sz := s.heap.size)
  generalize hAe : va_A (cW cB cI cJ cZ cS cO b cs) s.heap.size = A at hD hZ ⊢
  have hA : ∀ q : Nat, s.heap.size ≤ q → A q := fun q h => by rw [← hAe]; exact Or.inr h
  have hS : va_S A s.heap s.heap [] := va_S.rf
  have hl := lv_entry ([.ref (b + x0), .int x1, .int x2]) (n := 3) (Nat.le_of_ble_eq_true rfl)
  rw [lg_entry_eq]
  generalize (lg_sl ([.ref (b + x0), .int x1, .int x2]) ++ List.replicate (3 - (lg_sl ([.ref (b + x0), .int x1, .int x2])).length) Slot.unset).toArray = ls at hl ⊢
  have hl : lv_has ls 3 [(0, .ref (b + x0)), (1, .int x1), (2, .int x2)] := hl
  have B_30 : ∀ (cs1 : CS) , c_X9_refuseNinth_b30 F cs1 = some cs9 → ∀ (H : Heap) (locs : List Loc) (ls : Array Slot), va_P (dC, dI) vwCl (cW cB cI cJ cZ cS cO b cs1) H → va_D A (cW cB cI cJ cZ cS cO b cs1) → va_S A s.heap H locs → lv_has ls 3 [] → W p l e (headSpec (wsOf yX9_refuseNinth cX9_refuseNinth 3 none) ({ frames := 1, cells := 0, slots := 0, locals := 60 * (1) } : Room)).room s m ([.ref (b + x0), .int x1, .int x2] : List Value).toArray below meth c H locs 0 0 (MQ below (va_Qv (fun (_ : Unit) => True) (fun _ t_ => va_P (dC, dI) vwCl (cW cB cI cJ cZ cS cO b cs9) t_.heap ∧ va_D A (cW cB cI cJ cZ cS cO b cs9)) A) ([.ref (b + x0), .int x1, .int x2] : List Value).toArray s 0 0 A) (F0 m 30 ls []) := by
    intro cs1  h H locs ls hP hD hS hl
    unfold c_X9_refuseNinth_b30 at h
    have e1 := Option.some.inj h
    rw [e1] at hP hD
    exact W.vret hx hb hr (fun t_ ht hW => ⟨⟨(), rfl, trivial, by rw [ht]; exact hP, hD⟩, hS.F ht⟩) hS.2.2 dX9_refuseNinth_30
  have B_23 : ∀ (cs1 : CS) (u0 : Nat) (y0 : Int32) (y1 : Nat), c_X9_refuseNinth_b23 F cs1 u0 y0 y1 = some cs9 → ∀ (H : Heap) (locs : List Loc) (ls : Array Slot), va_P (dC, dI) vwCl (cW cB cI cJ cZ cS cO b cs1) H → va_D A (cW cB cI cJ cZ cS cO b cs1) → va_S A s.heap H locs → lv_has ls 3 [(0, .ref (b + u0))] → W p l e (headSpec (wsOf yX9_refuseNinth cX9_refuseNinth 3 none) ({ frames := 1, cells := 0, slots := 0, locals := 60 * (1) } : Room)).room s m ([.ref (b + x0), .int x1, .int x2] : List Value).toArray below meth c H locs 0 0 (MQ below (va_Qv (fun (_ : Unit) => True) (fun _ t_ => va_P (dC, dI) vwCl (cW cB cI cJ cZ cS cO b cs9) t_.heap ∧ va_D A (cW cB cI cJ cZ cS cO b cs9)) A) ([.ref (b + x0), .int x1, .int x2] : List Value).toArray s 0 0 A) (F0 m 23 ls [.int y0, .ref (b + y1)]) := by
    intro cs1 u0 y0 y1 h H locs ls hP hD hS hl
    unfold c_X9_refuseNinth_b23 at h
    refine lv_aload_n hx hb dX9_refuseNinth_23 rfl (lv_at hl 0 rfl) ?_
    replace h := ob h; obtain ⟨w_2, hw_2, h⟩ := h
    replace h := ob h; obtain ⟨v_1, hv_1, h⟩ := h
    refine ccI (As := []) hx hb hml hts hown hK hP hD hS hA hZ (X := 10) (by decide) rfl (ckE_some hw_2) (sc_X9_here l dC dI cB cI cJ cZ cS cO b K V fz F cs1 u0 v_1 hv_1) (cw_X9_X9_here hts (fr := 0) (Nat.le_of_ble_eq_true rfl) (Nat.le_of_ble_eq_true rfl)) rfl hl.1 (Nat.le_of_ble_eq_true rfl) ⟨Nat.zero_le _, Nat.zero_le _⟩ dX9_refuseNinth_24 (fun H locs hP hD hS => ?_)
    replace h := ob h; obtain ⟨w_4, hw_4, h⟩ := h
    replace h := ob h; obtain ⟨cs_3, hv_3, h⟩ := h
    refine ccV (As := [.int y0, .int v_1]) hx hb hml hts hown hK hP hD hS hA hZ (X := 10) (by decide) rfl (ckE_some hw_4) (sc_X9_refuse l dC dI cB cI cJ cZ cS cO b K V fz F cs1 y1 y0 v_1 cs_3 hv_3) (cw_X9_X9_refuse hts (fr := 0) (Nat.le_of_ble_eq_true rfl) (Nat.le_of_ble_eq_true rfl)) rfl hl.1 (Nat.le_of_ble_eq_true rfl) ⟨Nat.zero_le _, Nat.zero_le _⟩ dX9_refuseNinth_27 (fun H locs hP hD hS => ?_)
    exact B_30 cs_3 h _ _ _ hP hD hS (lv_sub hl [] rfl)
  have h := hf
  unfold c_X9_refuseNinth at h
  refine lv_iload_n hx hb dX9_refuseNinth_0 rfl (lv_at hl 1 rfl) ?_
  refine lv_if_eq (tgt := 30) hx hb dX9_refuseNinth_1 (by decide) (fun c_5 => ?_) (fun c_5 => ?_)
  · skip
    replace h := (if_pos c_5).symm.trans h
    exact B_30 cs h _ _ _ hP hD hS (lv_sub hl [] rfl)
  · skip
    replace h := (if_neg c_5).symm.trans h
    refine lv_aload_n hx hb dX9_refuseNinth_4 rfl (lv_at hl 0 rfl) ?_
    refine lv_aload_n hx hb dX9_refuseNinth_5 rfl (lv_at hl 0 rfl) ?_
    refine lv_aload_n hx hb dX9_refuseNinth_6 rfl (lv_at hl 0 rfl) ?_
    replace h := ob h; obtain ⟨w_7, hw_7, h⟩ := h
    replace h := ob h; obtain ⟨v_6, hv_6, h⟩ := h
    refine ccI (As := []) hx hb hml hts hown hK hP hD hS hA hZ (X := 10) (by decide) rfl (ckE_some hw_7) (sc_X9_kind l dC dI cB cI cJ cZ cS cO b K V fz F cs x0 v_6 hv_6) (cw_X9_X9_kind hts (fr := 0) (Nat.le_of_ble_eq_true rfl) (Nat.le_of_ble_eq_true rfl)) rfl hl.1 (Nat.le_of_ble_eq_true rfl) ⟨Nat.zero_le _, Nat.zero_le _⟩ dX9_refuseNinth_7 (fun H locs hP hD hS => ?_)
    refine lv_iload_n hx hb dX9_refuseNinth_10 rfl (lv_at hl 2 rfl) ?_
    replace h := ob h; obtain ⟨w_9, hw_9, h⟩ := h
    replace h := ob h; obtain ⟨v_8, hv_8, h⟩ := h
    refine ccI (As := [.int v_6, .int x2]) hx hb hml hts hown hK hP hD hS hA hZ (X := 10) (by decide) rfl (ckE_some hw_9) (sc_X9_beginsExpr l dC dI cB cI cJ cZ cS cO b K V fz F cs x0 v_6 x2 v_8 hv_8) (cw_X9_X9_beginsExpr hts (fr := 0) (Nat.le_of_ble_eq_true rfl) (Nat.le_of_ble_eq_true rfl)) rfl hl.1 (Nat.le_of_ble_eq_true rfl) ⟨Nat.zero_le _, Nat.zero_le _⟩ dX9_refuseNinth_11 (fun H locs hP hD hS => ?_)
    refine lv_if_eq (tgt := 22) hx hb dX9_refuseNinth_14 (by decide) (fun c_10 => ?_) (fun c_10 => ?_)
    · skip
      replace h := (if_pos c_10).symm.trans h
      refine lv_iconst (v := 1) hx hb dX9_refuseNinth_22 (by decide) ?_
      exact B_23 cs x0 1 x0 h _ _ _ hP hD hS (lv_sub hl [0] rfl)
    · skip
      replace h := (if_neg c_10).symm.trans h
      refine lv_bipush (v := 7) hx hb dX9_refuseNinth_17 (by decide) ?_
      refine lv_goto (tgt := 23) hx hb dX9_refuseNinth_19 (by decide) ?_
      exact B_23 cs x0 7 x0 h _ _ _ hP hD hS (lv_sub hl [0] rfl)
theorem dX9_complete_0 : decode cX9_complete 0 = .ok (.aload_n 0, 1) := by decide +kernel
theorem dX9_complete_1 : decode cX9_complete 1 = .ok (.getfield 93, 3) := by decide +kernel
theorem dX9_complete_4 : decode cX9_complete 4 = .ok (.ifCond .ne 23, 3) := by decide +kernel
theorem dX9_complete_7 : decode cX9_complete 7 = .ok (.aload_n 0, 1) := by decide +kernel
theorem dX9_complete_8 : decode cX9_complete 8 = .ok (.getfield 26, 3) := by decide +kernel
theorem dX9_complete_11 : decode cX9_complete 11 = .ok (.getfield 296, 3) := by decide +kernel
theorem dX9_complete_14 : decode cX9_complete 14 = .ok (.bipush 120, 2) := by decide +kernel
theorem dX9_complete_16 : decode cX9_complete 16 = .ok (.if_icmp .lt 11, 3) := by decide +kernel
theorem dX9_complete_19 : decode cX9_complete 19 = .ok (.aload_n 0, 1) := by decide +kernel
theorem dX9_complete_20 : decode cX9_complete 20 = .ok (.bipush 7, 2) := by decide +kernel
theorem dX9_complete_22 : decode cX9_complete 22 = .ok (.iload 4, 2) := by decide +kernel
theorem dX9_complete_24 : decode cX9_complete 24 = .ok (.invokevirtual 121, 3) := by decide +kernel
theorem dX9_complete_27 : decode cX9_complete 27 = .ok (.aload_n 0, 1) := by decide +kernel
theorem dX9_complete_28 : decode cX9_complete 28 = .ok (.getfield 93, 3) := by decide +kernel
theorem dX9_complete_31 : decode cX9_complete 31 = .ok (.ifCond .eq 7, 3) := by decide +kernel
theorem dX9_complete_34 : decode cX9_complete 34 = .ok (.iconst (-1), 1) := by decide +kernel
theorem dX9_complete_35 : decode cX9_complete 35 = .ok (.goto 15, 3) := by decide +kernel
theorem dX9_complete_38 : decode cX9_complete 38 = .ok (.aload_n 0, 1) := by decide +kernel
theorem dX9_complete_39 : decode cX9_complete 39 = .ok (.getfield 26, 3) := by decide +kernel
theorem dX9_complete_42 : decode cX9_complete 42 = .ok (.iload_n 1, 1) := by decide +kernel
theorem dX9_complete_43 : decode cX9_complete 43 = .ok (.iload_n 2, 1) := by decide +kernel
theorem dX9_complete_44 : decode cX9_complete 44 = .ok (.iload_n 3, 1) := by decide +kernel
theorem dX9_complete_45 : decode cX9_complete 45 = .ok (.iload 5, 2) := by decide +kernel
theorem dX9_complete_47 : decode cX9_complete 47 = .ok (.invokevirtual 299, 3) := by decide +kernel
theorem dX9_complete_50 : decode cX9_complete 50 = .ok (.ireturn, 1) := by decide +kernel
def c_X9_complete_b50 (F : Nat) (cs1 : CS) (y0 : Int32) : Option (CS × Int32) := some (cs1, y0)
def c_X9_complete_b27 (F : Nat) (cs1 : CS) (u0 : Nat) (u1 : Int32) (u2 : Int32) (u3 : Int32) (u5 : Int32) : Option (CS × Int32) := Option.bind (gI cs1 10 320 u0) fun v_1 => if v_1 = 0 then (Option.bind (gR cs1 10 322 u0) fun v_3 => Option.bind (v_3) fun i_5 => Option.bind (ckE cs1 2 i_5) fun _ => Option.bind (c_X1_add F cs1 i_5 u1 u2 u3 u5) fun z_4 => c_X9_complete_b50 F z_4.1 z_4.2) else (c_X9_complete_b50 F cs1 (-1))
def c_X9_complete (F : Nat) (cs : CS) (x0 : Nat) (x1 : Int32) (x2 : Int32) (x3 : Int32) (x4 : Int32) (x5 : Int32) : Option (CS × Int32) := Option.bind (gI cs 10 320 x0) fun v_7 => if v_7 = 0 then (Option.bind (gR cs 10 322 x0) fun v_9 => Option.bind (v_9) fun i_10 => Option.bind (gI cs 2 64 i_10) fun v_11 => if v_11 < 120 then (c_X9_complete_b27 F cs x0 x1 x2 x3 x5) else (Option.bind (ckE cs 10 x0) fun _ => Option.bind (c_X9_refuse F cs x0 7 x4) fun cs_13 => c_X9_complete_b27 F cs_13 x0 x1 x2 x3 x5)) else (c_X9_complete_b27 F cs x0 x1 x2 x3 x5)
theorem cw_X9_X9_complete {R : Room} {s : State} {args : Array Value} {y0 : MethodName} {c0 : ByteArray} {n0 : Nat} {r0 : Option FieldType} (hts : ∀ w ∈ wsOf y0 c0 n0 r0, w.before args s = true) {fr : Nat} (h1 : fr + 1 ≤ R.frames) (h2 : 8 + (6 + 11) + 60 * fr ≤ R.locals) : CallW R s args RX9 RX9 305 yX9_complete cX9_complete 6 (some .int) (wsOf yX9_complete cX9_complete 6 (some .int)) ({ frames := fr, cells := 0, slots := 0, locals := 60 * fr } : Room) 0 0 5 := cwV 5 hts (gd_all (in_V kw_987 kw_989 kw_30 kw_193 kc_X9_complete)) rfl rfl rfl (by decide +kernel) ⟨h1, h2⟩
set_option maxHeartbeats 4000000 in
set_option maxRecDepth 100000 in
theorem sc_X9_complete (l : Launch) (dC : Nat → ClassId) (dI : Nat → Nat → Nat) (cB cI cJ cZ cS cO : ClassId) (b : Nat) (K V : Nat → Nat) (fz : Value) (F : Nat) (cs : CS) (x0 : Nat) (x1 : Int32) (x2 : Int32) (x3 : Int32) (x4 : Int32) (x5 : Int32) (cs9 : CS) (r9 : Int32) (hf : c_X9_complete F cs x0 x1 x2 x3 x4 x5 = some (cs9, r9)) : ocI l dC dI cB cI cJ cZ cS cO b K V fz yX9_complete (wsOf yX9_complete cX9_complete 6 (some .int)) (1) [.ref (b + x0), .int x1, .int x2, .int x3, .int x4, .int x5] cs cs9 r9 := by
  intro sz
  refine Met.ofW (cc := cX9_complete) (maxL := 6) (ret := (some .int)) (by decide) rfl ?_
  intro p e s m args below meth c s₁ B hml hv
  obtain ⟨rfl, hsz, hP, hK, hD0, hZ⟩ := hv
  have hx := B.exec
  have hb := B.bytes
  have hr := B.returns
  have hts := atoms_spec (ws := (wsOf yX9_complete cX9_complete 6 (some .int))) B.pre
  have hown : s.vm.findClass RX9 = some m.cls := findClass_of_methodNamed B.named
  have hlocks := B.notSynchronized
  subst hsz
  have hD := hD0.self (sz := s.heap.size)
  generalize hAe : va_A (cW cB cI cJ cZ cS cO b cs) s.heap.size = A at hD hZ ⊢
  have hA : ∀ q : Nat, s.heap.size ≤ q → A q := fun q h => by rw [← hAe]; exact Or.inr h
  have hS : va_S A s.heap s.heap [] := va_S.rf
  have hl := lv_entry ([.ref (b + x0), .int x1, .int x2, .int x3, .int x4, .int x5]) (n := 6) (Nat.le_of_ble_eq_true rfl)
  rw [lg_entry_eq]
  generalize (lg_sl ([.ref (b + x0), .int x1, .int x2, .int x3, .int x4, .int x5]) ++ List.replicate (6 - (lg_sl ([.ref (b + x0), .int x1, .int x2, .int x3, .int x4, .int x5])).length) Slot.unset).toArray = ls at hl ⊢
  have hl : lv_has ls 6 [(0, .ref (b + x0)), (1, .int x1), (2, .int x2), (3, .int x3), (4, .int x4), (5, .int x5)] := hl
  have B_50 : ∀ (cs1 : CS) (y0 : Int32), c_X9_complete_b50 F cs1 y0 = some (cs9, r9) → ∀ (H : Heap) (locs : List Loc) (ls : Array Slot), va_P (dC, dI) vwCl (cW cB cI cJ cZ cS cO b cs1) H → va_D A (cW cB cI cJ cZ cS cO b cs1) → va_S A s.heap H locs → lv_has ls 6 [] → W p l e (headSpec (wsOf yX9_complete cX9_complete 6 (some .int)) ({ frames := 1, cells := 0, slots := 0, locals := 60 * (1) } : Room)).room s m ([.ref (b + x0), .int x1, .int x2, .int x3, .int x4, .int x5] : List Value).toArray below meth c H locs 0 0 (MQ below (va_Qi (fun (x : Int32) (_ : Unit) => x = r9) (fun _ t_ => va_P (dC, dI) vwCl (cW cB cI cJ cZ cS cO b cs9) t_.heap ∧ va_D A (cW cB cI cJ cZ cS cO b cs9)) A) ([.ref (b + x0), .int x1, .int x2, .int x3, .int x4, .int x5] : List Value).toArray s 0 0 A) (F0 m 50 ls [.int y0]) := by
    intro cs1 y0 h H locs ls hP hD hS hl
    unfold c_X9_complete_b50 at h
    obtain ⟨e1, e2⟩ := Prod.mk.inj (Option.some.inj h)
    rw [e1] at hP hD
    exact W.iret (v := y0) hx hb hr (fun t_ ht hW => ⟨⟨y0, (), rfl, e2, by rw [ht]; exact hP, hD⟩, hS.F ht⟩) hS.2.2 dX9_complete_50
  have B_27 : ∀ (cs1 : CS) (u0 : Nat) (u1 : Int32) (u2 : Int32) (u3 : Int32) (u5 : Int32), c_X9_complete_b27 F cs1 u0 u1 u2 u3 u5 = some (cs9, r9) → ∀ (H : Heap) (locs : List Loc) (ls : Array Slot), va_P (dC, dI) vwCl (cW cB cI cJ cZ cS cO b cs1) H → va_D A (cW cB cI cJ cZ cS cO b cs1) → va_S A s.heap H locs → lv_has ls 6 [(0, .ref (b + u0)), (1, .int u1), (2, .int u2), (3, .int u3), (5, .int u5)] → W p l e (headSpec (wsOf yX9_complete cX9_complete 6 (some .int)) ({ frames := 1, cells := 0, slots := 0, locals := 60 * (1) } : Room)).room s m ([.ref (b + x0), .int x1, .int x2, .int x3, .int x4, .int x5] : List Value).toArray below meth c H locs 0 0 (MQ below (va_Qi (fun (x : Int32) (_ : Unit) => x = r9) (fun _ t_ => va_P (dC, dI) vwCl (cW cB cI cJ cZ cS cO b cs9) t_.heap ∧ va_D A (cW cB cI cJ cZ cS cO b cs9)) A) ([.ref (b + x0), .int x1, .int x2, .int x3, .int x4, .int x5] : List Value).toArray s 0 0 A) (F0 m 27 ls []) := by
    intro cs1 u0 u1 u2 u3 u5 h H locs ls hP hD hS hl
    unfold c_X9_complete_b27 at h
    refine lv_aload_n hx hb dX9_complete_27 rfl (lv_at hl 0 rfl) ?_
    replace h := ob h; obtain ⟨v_1, hv_1, h⟩ := h
    refine fg_X9_93 hx hb hts hown hK hP hv_1 dX9_complete_28 ?_
    refine lv_if_eq (tgt := 38) hx hb dX9_complete_31 (by decide) (fun c_2 => ?_) (fun c_2 => ?_)
    · skip
      replace h := (if_pos c_2).symm.trans h
      refine lv_aload_n hx hb dX9_complete_38 rfl (lv_at hl 0 rfl) ?_
      replace h := ob h; obtain ⟨v_3, hv_3, h⟩ := h
      refine fg_X9_26 hx hb hts hown hK hP hv_3 dX9_complete_39 ?_
      refine lv_iload_n hx hb dX9_complete_42 rfl (lv_at hl 1 rfl) ?_
      refine lv_iload_n hx hb dX9_complete_43 rfl (lv_at hl 2 rfl) ?_
      refine lv_iload_n hx hb dX9_complete_44 rfl (lv_at hl 3 rfl) ?_
      refine lv_iload hx hb dX9_complete_45 (lv_at hl 4 rfl) ?_
      replace h := ob h; obtain ⟨i_5, hi_5, h⟩ := h
      subst hi_5
      replace h := ob h; obtain ⟨w_6, hw_6, h⟩ := h
      replace h := ob h; obtain ⟨z_4, hv_4, h⟩ := h
      refine ccI (As := [.int u1, .int u2, .int u3, .int u5]) hx hb hml hts hown hK hP hD hS hA hZ (X := 2) (by decide) rfl (ckE_some hw_6) (sc_X1_add l dC dI cB cI cJ cZ cS cO b K V fz F cs1 i_5 u1 u2 u3 u5 z_4.1 z_4.2 hv_4) (cw_X9_X1_add hts (fr := 0) (Nat.le_of_ble_eq_true rfl) (Nat.le_of_ble_eq_true rfl)) rfl hl.1 (Nat.le_of_ble_eq_true rfl) ⟨Nat.zero_le _, Nat.zero_le _⟩ dX9_complete_47 (fun H locs hP hD hS => ?_)
      exact B_50 z_4.1 z_4.2 h _ _ _ hP hD hS (lv_sub hl [] rfl)
    · skip
      replace h := (if_neg c_2).symm.trans h
      refine lv_iconst (v := (-1)) hx hb dX9_complete_34 (by decide) ?_
      refine lv_goto (tgt := 50) hx hb dX9_complete_35 (by decide) ?_
      exact B_50 cs1 (-1) h _ _ _ hP hD hS (lv_sub hl [] rfl)
  have h := hf
  unfold c_X9_complete at h
  refine lv_aload_n hx hb dX9_complete_0 rfl (lv_at hl 0 rfl) ?_
  replace h := ob h; obtain ⟨v_7, hv_7, h⟩ := h
  refine fg_X9_93 hx hb hts hown hK hP hv_7 dX9_complete_1 ?_
  refine lv_if_ne (tgt := 27) hx hb dX9_complete_4 (by decide) (fun c_8 => ?_) (fun c_8 => ?_)
  · skip
    replace h := (if_neg c_8).symm.trans h
    exact B_27 cs x0 x1 x2 x3 x5 h _ _ _ hP hD hS (lv_sub hl [0, 1, 2, 3, 5] rfl)
  · skip
    replace h := (if_pos c_8).symm.trans h
    refine lv_aload_n hx hb dX9_complete_7 rfl (lv_at hl 0 rfl) ?_
    replace h := ob h; obtain ⟨v_9, hv_9, h⟩ := h
    refine fg_X9_26 hx hb hts hown hK hP hv_9 dX9_complete_8 ?_
    replace h := ob h; obtain ⟨i_10, hi_10, h⟩ := h
    subst hi_10
    replace h := ob h; obtain ⟨v_11, hv_11, h⟩ := h
    refine fg_X9_296 hx hb hts hown hK hP hv_11 dX9_complete_11 ?_
    refine lv_bipush (v := 120) hx hb dX9_complete_14 (by decide) ?_
    refine lv_icmp_lt (tgt := 27) hx hb dX9_complete_16 (by decide) (fun c_12 => ?_) (fun c_12 => ?_)
    · skip
      replace h := (if_pos c_12).symm.trans h
      exact B_27 cs x0 x1 x2 x3 x5 h _ _ _ hP hD hS (lv_sub hl [0, 1, 2, 3, 5] rfl)
    · skip
      replace h := (if_neg c_12).symm.trans h
      refine lv_aload_n hx hb dX9_complete_19 rfl (lv_at hl 0 rfl) ?_
      refine lv_bipush (v := 7) hx hb dX9_complete_20 (by decide) ?_
      refine lv_iload hx hb dX9_complete_22 (lv_at hl 4 rfl) ?_
      replace h := ob h; obtain ⟨w_14, hw_14, h⟩ := h
      replace h := ob h; obtain ⟨cs_13, hv_13, h⟩ := h
      refine ccV (As := [.int 7, .int x4]) hx hb hml hts hown hK hP hD hS hA hZ (X := 10) (by decide) rfl (ckE_some hw_14) (sc_X9_refuse l dC dI cB cI cJ cZ cS cO b K V fz F cs x0 7 x4 cs_13 hv_13) (cw_X9_X9_refuse hts (fr := 0) (Nat.le_of_ble_eq_true rfl) (Nat.le_of_ble_eq_true rfl)) rfl hl.1 (Nat.le_of_ble_eq_true rfl) ⟨Nat.zero_le _, Nat.zero_le _⟩ dX9_complete_24 (fun H locs hP hD hS => ?_)
      exact B_27 cs_13 x0 x1 x2 x3 x5 h _ _ _ hP hD hS (lv_sub hl [0, 1, 2, 3, 5] rfl)
theorem dX9_readLiteral_0 : decode cX9_readLiteral 0 = .ok (.aload_n 0, 1) := by decide +kernel
theorem dX9_readLiteral_1 : decode cX9_readLiteral 1 = .ok (.invokevirtual 114, 3) := by decide +kernel
theorem dX9_readLiteral_4 : decode cX9_readLiteral 4 = .ok (.istore_n 1, 1) := by decide +kernel
theorem dX9_readLiteral_5 : decode cX9_readLiteral 5 = .ok (.aload_n 0, 1) := by decide +kernel
theorem dX9_readLiteral_6 : decode cX9_readLiteral 6 = .ok (.invokevirtual 118, 3) := by decide +kernel
theorem dX9_readLiteral_9 : decode cX9_readLiteral 9 = .ok (.istore_n 2, 1) := by decide +kernel
theorem dX9_readLiteral_10 : decode cX9_readLiteral 10 = .ok (.aload_n 0, 1) := by decide +kernel
theorem dX9_readLiteral_11 : decode cX9_readLiteral 11 = .ok (.invokevirtual 125, 3) := by decide +kernel
theorem dX9_readLiteral_14 : decode cX9_readLiteral 14 = .ok (.lstore_n 3, 1) := by decide +kernel
theorem dX9_readLiteral_15 : decode cX9_readLiteral 15 = .ok (.aload_n 0, 1) := by decide +kernel
theorem dX9_readLiteral_16 : decode cX9_readLiteral 16 = .ok (.dup, 1) := by decide +kernel
theorem dX9_readLiteral_17 : decode cX9_readLiteral 17 = .ok (.getfield 99, 3) := by decide +kernel
theorem dX9_readLiteral_20 : decode cX9_readLiteral 20 = .ok (.iconst 1, 1) := by decide +kernel
theorem dX9_readLiteral_21 : decode cX9_readLiteral 21 = .ok (.iadd, 1) := by decide +kernel
theorem dX9_readLiteral_22 : decode cX9_readLiteral 22 = .ok (.putfield 99, 3) := by decide +kernel
theorem dX9_readLiteral_25 : decode cX9_readLiteral 25 = .ok (.aload_n 0, 1) := by decide +kernel
theorem dX9_readLiteral_26 : decode cX9_readLiteral 26 = .ok (.iload_n 1, 1) := by decide +kernel
theorem dX9_readLiteral_27 : decode cX9_readLiteral 27 = .ok (.aload_n 0, 1) := by decide +kernel
theorem dX9_readLiteral_28 : decode cX9_readLiteral 28 = .ok (.getfield 26, 3) := by decide +kernel
theorem dX9_readLiteral_31 : decode cX9_readLiteral 31 = .ok (.getfield 296, 3) := by decide +kernel
theorem dX9_readLiteral_34 : decode cX9_readLiteral 34 = .ok (.iload_n 2, 1) := by decide +kernel
theorem dX9_readLiteral_35 : decode cX9_readLiteral 35 = .ok (.iload_n 2, 1) := by decide +kernel
theorem dX9_readLiteral_36 : decode cX9_readLiteral 36 = .ok (.iconst 0, 1) := by decide +kernel
theorem dX9_readLiteral_37 : decode cX9_readLiteral 37 = .ok (.invokevirtual 305, 3) := by decide +kernel
theorem dX9_readLiteral_40 : decode cX9_readLiteral 40 = .ok (.istore 5, 2) := by decide +kernel
theorem dX9_readLiteral_42 : decode cX9_readLiteral 42 = .ok (.aload_n 0, 1) := by decide +kernel
theorem dX9_readLiteral_43 : decode cX9_readLiteral 43 = .ok (.getfield 26, 3) := by decide +kernel
theorem dX9_readLiteral_46 : decode cX9_readLiteral 46 = .ok (.iload 5, 2) := by decide +kernel
theorem dX9_readLiteral_48 : decode cX9_readLiteral 48 = .ok (.invokevirtual 228, 3) := by decide +kernel
theorem dX9_readLiteral_51 : decode cX9_readLiteral 51 = .ok (.ifCond .eq 14, 3) := by decide +kernel
theorem dX9_readLiteral_54 : decode cX9_readLiteral 54 = .ok (.aload_n 0, 1) := by decide +kernel
theorem dX9_readLiteral_55 : decode cX9_readLiteral 55 = .ok (.getfield 26, 3) := by decide +kernel
theorem dX9_readLiteral_58 : decode cX9_readLiteral 58 = .ok (.getfield 231, 3) := by decide +kernel
theorem dX9_readLiteral_61 : decode cX9_readLiteral 61 = .ok (.iload 5, 2) := by decide +kernel
theorem dX9_readLiteral_63 : decode cX9_readLiteral 63 = .ok (.lload_n 3, 1) := by decide +kernel
theorem dX9_readLiteral_64 : decode cX9_readLiteral 64 = .ok (.lastore, 1) := by decide +kernel
theorem dX9_readLiteral_65 : decode cX9_readLiteral 65 = .ok (.return_, 1) := by decide +kernel
def c_X9_readLiteral_b65 (F : Nat) (cs1 : CS) : Option CS := some cs1
def c_X9_readLiteral (F : Nat) (cs : CS) (x0 : Nat) : Option CS := Option.bind (ckE cs 10 x0) fun _ => Option.bind (c_X9_kind F cs x0) fun v_1 => Option.bind (ckE cs 10 x0) fun _ => Option.bind (c_X9_here F cs x0) fun v_3 => Option.bind (ckE cs 10 x0) fun _ => Option.bind (c_X9_number F cs x0) fun v_5 => Option.bind (gI cs 10 328 x0) fun v_7 => Option.bind (pI cs 10 328 x0 (v_7 + 1)) fun cs_8 => Option.bind (gR cs_8 10 322 x0) fun v_9 => Option.bind (v_9) fun i_10 => Option.bind (gI cs_8 2 64 i_10) fun v_11 => Option.bind (ckE cs_8 10 x0) fun _ => Option.bind (c_X9_complete F cs_8 x0 v_1 v_11 v_3 v_3 0) fun z_12 => Option.bind (gR z_12.1 10 322 x0) fun v_14 => Option.bind (v_14) fun i_16 => Option.bind (ckE z_12.1 2 i_16) fun _ => Option.bind (c_X1_has F z_12.1 i_16 z_12.2) fun v_15 => if v_15 = 0 then (c_X9_readLiteral_b65 F z_12.1) else (Option.bind (gR z_12.1 10 322 x0) fun v_19 => Option.bind (v_19) fun i_20 => Option.bind (gA z_12.1 2 69 i_20) fun v_21 => Option.bind (wB z_12.1 69 i_20 v_21 z_12.2 v_5) fun cs_22 => c_X9_readLiteral_b65 F cs_22)
theorem cw_X9_X9_readLiteral {R : Room} {s : State} {args : Array Value} {y0 : MethodName} {c0 : ByteArray} {n0 : Nat} {r0 : Option FieldType} (hts : ∀ w ∈ wsOf y0 c0 n0 r0, w.before args s = true) {fr : Nat} (h1 : fr + 1 ≤ R.frames) (h2 : 8 + (6 + 11) + 60 * fr ≤ R.locals) : CallW R s args RX9 RX9 331 yX9_readLiteral cX9_readLiteral 6 none (wsOf yX9_readLiteral cX9_readLiteral 6 none) ({ frames := fr, cells := 0, slots := 0, locals := 60 * fr } : Room) 0 0 0 := cwV 0 hts (gd_all (in_V kw_979 kw_981 kw_28 kw_193 kc_X9_readLiteral)) rfl rfl rfl (by decide +kernel) ⟨h1, h2⟩
set_option maxHeartbeats 4000000 in
set_option maxRecDepth 100000 in
theorem sc_X9_readLiteral (l : Launch) (dC : Nat → ClassId) (dI : Nat → Nat → Nat) (cB cI cJ cZ cS cO : ClassId) (b : Nat) (K V : Nat → Nat) (fz : Value) (F : Nat) (cs : CS) (x0 : Nat) (cs9 : CS) (hf : c_X9_readLiteral F cs x0 = some cs9) : ocV l dC dI cB cI cJ cZ cS cO b K V fz yX9_readLiteral (wsOf yX9_readLiteral cX9_readLiteral 6 none) (2) [.ref (b + x0)] cs cs9 := by
  intro sz
  refine Met.ofW (cc := cX9_readLiteral) (maxL := 6) (ret := none) (by decide) rfl ?_
  intro p e s m args below meth c s₁ B hml hv
  obtain ⟨rfl, hsz, hP, hK, hD0, hZ⟩ := hv
  have hx := B.exec
  have hb := B.bytes
  have hr := B.returns
  have hts := atoms_spec (ws := (wsOf yX9_readLiteral cX9_readLiteral 6 none)) B.pre
  have hown : s.vm.findClass RX9 = some m.cls := findClass_of_methodNamed B.named
  have hlocks := B.notSynchronized
  subst hsz
  have hD := hD0.self (sz := s.heap.size)
  generalize hAe : va_A (cW cB cI cJ cZ cS cO b cs) s.heap.size = A at hD hZ ⊢
  have hA : ∀ q : Nat, s.heap.size ≤ q → A q := fun q h => by rw [← hAe]; exact Or.inr h
  have hS : va_S A s.heap s.heap [] := va_S.rf
  have hl := lv_entry ([.ref (b + x0)]) (n := 6) (Nat.le_of_ble_eq_true rfl)
  rw [lg_entry_eq]
  generalize (lg_sl ([.ref (b + x0)]) ++ List.replicate (6 - (lg_sl ([.ref (b + x0)])).length) Slot.unset).toArray = ls at hl ⊢
  have hl : lv_has ls 6 [(0, .ref (b + x0))] := hl
  have B_65 : ∀ (cs1 : CS) , c_X9_readLiteral_b65 F cs1 = some cs9 → ∀ (H : Heap) (locs : List Loc) (ls : Array Slot), va_P (dC, dI) vwCl (cW cB cI cJ cZ cS cO b cs1) H → va_D A (cW cB cI cJ cZ cS cO b cs1) → va_S A s.heap H locs → lv_has ls 6 [] → W p l e (headSpec (wsOf yX9_readLiteral cX9_readLiteral 6 none) ({ frames := 2, cells := 0, slots := 0, locals := 60 * (2) } : Room)).room s m ([.ref (b + x0)] : List Value).toArray below meth c H locs 0 0 (MQ below (va_Qv (fun (_ : Unit) => True) (fun _ t_ => va_P (dC, dI) vwCl (cW cB cI cJ cZ cS cO b cs9) t_.heap ∧ va_D A (cW cB cI cJ cZ cS cO b cs9)) A) ([.ref (b + x0)] : List Value).toArray s 0 0 A) (F0 m 65 ls []) := by
    intro cs1  h H locs ls hP hD hS hl
    unfold c_X9_readLiteral_b65 at h
    have e1 := Option.some.inj h
    rw [e1] at hP hD
    exact W.vret hx hb hr (fun t_ ht hW => ⟨⟨(), rfl, trivial, by rw [ht]; exact hP, hD⟩, hS.F ht⟩) hS.2.2 dX9_readLiteral_65
  have h := hf
  unfold c_X9_readLiteral at h
  refine lv_aload_n hx hb dX9_readLiteral_0 rfl (lv_at hl 0 rfl) ?_
  replace h := ob h; obtain ⟨w_2, hw_2, h⟩ := h
  replace h := ob h; obtain ⟨v_1, hv_1, h⟩ := h
  refine ccI (As := []) hx hb hml hts hown hK hP hD hS hA hZ (X := 10) (by decide) rfl (ckE_some hw_2) (sc_X9_kind l dC dI cB cI cJ cZ cS cO b K V fz F cs x0 v_1 hv_1) (cw_X9_X9_kind hts (fr := 0) (Nat.le_of_ble_eq_true rfl) (Nat.le_of_ble_eq_true rfl)) rfl hl.1 (Nat.le_of_ble_eq_true rfl) ⟨Nat.zero_le _, Nat.zero_le _⟩ dX9_readLiteral_1 (fun H locs hP hD hS => ?_)
  refine lv_istore_n (lv' := [(1, .int v_1), (0, .ref (b + x0))]) hx hb dX9_readLiteral_4 rfl hl (by decide) rfl (fun ls hl => ?_)
  refine lv_aload_n hx hb dX9_readLiteral_5 rfl (lv_at hl 1 rfl) ?_
  replace h := ob h; obtain ⟨w_4, hw_4, h⟩ := h
  replace h := ob h; obtain ⟨v_3, hv_3, h⟩ := h
  refine ccI (As := []) hx hb hml hts hown hK hP hD hS hA hZ (X := 10) (by decide) rfl (ckE_some hw_4) (sc_X9_here l dC dI cB cI cJ cZ cS cO b K V fz F cs x0 v_3 hv_3) (cw_X9_X9_here hts (fr := 0) (Nat.le_of_ble_eq_true rfl) (Nat.le_of_ble_eq_true rfl)) rfl hl.1 (Nat.le_of_ble_eq_true rfl) ⟨Nat.zero_le _, Nat.zero_le _⟩ dX9_readLiteral_6 (fun H locs hP hD hS => ?_)
  refine lv_istore_n (lv' := [(2, .int v_3), (1, .int v_1), (0, .ref (b + x0))]) hx hb dX9_readLiteral_9 rfl hl (by decide) rfl (fun ls hl => ?_)
  refine lv_aload_n hx hb dX9_readLiteral_10 rfl (lv_at hl 2 rfl) ?_
  replace h := ob h; obtain ⟨w_6, hw_6, h⟩ := h
  replace h := ob h; obtain ⟨v_5, hv_5, h⟩ := h
  refine ccL (As := []) hx hb hml hts hown hK hP hD hS hA hZ (X := 10) (by decide) rfl (ckE_some hw_6) (sc_X9_number l dC dI cB cI cJ cZ cS cO b K V fz F cs x0 v_5 hv_5) (cw_X9_X9_number hts (fr := 0) (Nat.le_of_ble_eq_true rfl) (Nat.le_of_ble_eq_true rfl)) rfl hl.1 (Nat.le_of_ble_eq_true rfl) ⟨Nat.zero_le _, Nat.zero_le _⟩ dX9_readLiteral_11 (fun H locs hP hD hS => ?_)
  refine lv_lstore_n (lv' := [(3, .long v_5), (2, .int v_3), (1, .int v_1), (0, .ref (b + x0))]) hx hb dX9_readLiteral_14 rfl hl (by decide) rfl (fun ls hl => ?_)
  refine lv_aload_n hx hb dX9_readLiteral_15 rfl (lv_at hl 3 rfl) ?_
  refine lv_dup hx hb dX9_readLiteral_16 rfl ?_
  replace h := ob h; obtain ⟨v_7, hv_7, h⟩ := h
  refine fg_X9_99 hx hb hts hown hK hP hv_7 dX9_readLiteral_17 ?_
  refine lv_iconst (v := 1) hx hb dX9_readLiteral_20 (by decide) ?_
  refine lv_iadd hx hb dX9_readLiteral_21 ?_
  replace h := ob h; obtain ⟨cs_8, hv_8, h⟩ := h
  refine fp_X9_99 hx hb hts hown hK hP hD hS hv_8 dX9_readLiteral_22 (fun H locs hP hD hS => ?_)
  refine lv_aload_n hx hb dX9_readLiteral_25 rfl (lv_at hl 3 rfl) ?_
  refine lv_iload_n hx hb dX9_readLiteral_26 rfl (lv_at hl 2 rfl) ?_
  refine lv_aload_n hx hb dX9_readLiteral_27 rfl (lv_at hl 3 rfl) ?_
  replace h := ob h; obtain ⟨v_9, hv_9, h⟩ := h
  refine fg_X9_26 hx hb hts hown hK hP hv_9 dX9_readLiteral_28 ?_
  replace h := ob h; obtain ⟨i_10, hi_10, h⟩ := h
  subst hi_10
  replace h := ob h; obtain ⟨v_11, hv_11, h⟩ := h
  refine fg_X9_296 hx hb hts hown hK hP hv_11 dX9_readLiteral_31 ?_
  refine lv_iload_n hx hb dX9_readLiteral_34 rfl (lv_at hl 1 rfl) ?_
  refine lv_iload_n hx hb dX9_readLiteral_35 rfl (lv_at hl 1 rfl) ?_
  refine lv_iconst (v := 0) hx hb dX9_readLiteral_36 (by decide) ?_
  replace h := ob h; obtain ⟨w_13, hw_13, h⟩ := h
  replace h := ob h; obtain ⟨z_12, hv_12, h⟩ := h
  refine ccI (As := [.int v_1, .int v_11, .int v_3, .int v_3, .int 0]) hx hb hml hts hown hK hP hD hS hA hZ (X := 10) (by decide) rfl (ckE_some hw_13) (sc_X9_complete l dC dI cB cI cJ cZ cS cO b K V fz F cs_8 x0 v_1 v_11 v_3 v_3 0 z_12.1 z_12.2 hv_12) (cw_X9_X9_complete hts (fr := 1) (Nat.le_of_ble_eq_true rfl) (Nat.le_of_ble_eq_true rfl)) rfl hl.1 (Nat.le_of_ble_eq_true rfl) ⟨Nat.zero_le _, Nat.zero_le _⟩ dX9_readLiteral_37 (fun H locs hP hD hS => ?_)
  refine lv_istore (lv' := [(5, .int z_12.2), (3, .long v_5), (2, .int v_3), (1, .int v_1), (0, .ref (b + x0))]) hx hb dX9_readLiteral_40 hl (by decide) rfl (fun ls hl => ?_)
  refine lv_aload_n hx hb dX9_readLiteral_42 rfl (lv_at hl 4 rfl) ?_
  replace h := ob h; obtain ⟨v_14, hv_14, h⟩ := h
  refine fg_X9_26 hx hb hts hown hK hP hv_14 dX9_readLiteral_43 ?_
  refine lv_iload hx hb dX9_readLiteral_46 (lv_at hl 0 rfl) ?_
  replace h := ob h; obtain ⟨i_16, hi_16, h⟩ := h
  subst hi_16
  replace h := ob h; obtain ⟨w_17, hw_17, h⟩ := h
  replace h := ob h; obtain ⟨v_15, hv_15, h⟩ := h
  refine ccI (As := [.int z_12.2]) hx hb hml hts hown hK hP hD hS hA hZ (X := 2) (by decide) rfl (ckE_some hw_17) (sc_X1_has l dC dI cB cI cJ cZ cS cO b K V fz F z_12.1 i_16 z_12.2 v_15 hv_15) (cw_X9_X1_has hts (fr := 0) (Nat.le_of_ble_eq_true rfl) (Nat.le_of_ble_eq_true rfl)) rfl hl.1 (Nat.le_of_ble_eq_true rfl) ⟨Nat.zero_le _, Nat.zero_le _⟩ dX9_readLiteral_48 (fun H locs hP hD hS => ?_)
  refine lv_if_eq (tgt := 65) hx hb dX9_readLiteral_51 (by decide) (fun c_18 => ?_) (fun c_18 => ?_)
  · skip
    replace h := (if_pos c_18).symm.trans h
    exact B_65 z_12.1 h _ _ _ hP hD hS (lv_sub hl [] rfl)
  · skip
    replace h := (if_neg c_18).symm.trans h
    refine lv_aload_n hx hb dX9_readLiteral_54 rfl (lv_at hl 4 rfl) ?_
    replace h := ob h; obtain ⟨v_19, hv_19, h⟩ := h
    refine fg_X9_26 hx hb hts hown hK hP hv_19 dX9_readLiteral_55 ?_
    replace h := ob h; obtain ⟨i_20, hi_20, h⟩ := h
    subst hi_20
    replace h := ob h; obtain ⟨v_21, hv_21, h⟩ := h
    refine fg_X9_231 hx hb hts hown hK hP hv_21 dX9_readLiteral_58 ?_
    refine lv_iload hx hb dX9_readLiteral_61 (lv_at hl 0 rfl) ?_
    refine lv_lload_n hx hb dX9_readLiteral_63 rfl (lv_at hl 1 rfl) ?_
    replace h := ob h; obtain ⟨cs_22, hv_22, h⟩ := h
    refine ast2 hx hb hK hP hD hS rfl hv_22 dX9_readLiteral_64 (fun H locs hP hD hS => ?_)
    exact B_65 cs_22 h _ _ _ hP hD hS (lv_sub hl [] rfl)
theorem dX9_readColumn_0 : decode cX9_readColumn 0 = .ok (.aload_n 0, 1) := by decide +kernel
theorem dX9_readColumn_1 : decode cX9_readColumn 1 = .ok (.invokevirtual 118, 3) := by decide +kernel
theorem dX9_readColumn_4 : decode cX9_readColumn 4 = .ok (.istore_n 1, 1) := by decide +kernel
theorem dX9_readColumn_5 : decode cX9_readColumn 5 = .ok (.aload_n 0, 1) := by decide +kernel
theorem dX9_readColumn_6 : decode cX9_readColumn 6 = .ok (.invokevirtual 114, 3) := by decide +kernel
theorem dX9_readColumn_9 : decode cX9_readColumn 9 = .ok (.bipush 38, 2) := by decide +kernel
theorem dX9_readColumn_11 : decode cX9_readColumn 11 = .ok (.if_icmp .ne 7, 3) := by decide +kernel
theorem dX9_readColumn_14 : decode cX9_readColumn 14 = .ok (.iconst 1, 1) := by decide +kernel
theorem dX9_readColumn_15 : decode cX9_readColumn 15 = .ok (.goto 4, 3) := by decide +kernel
theorem dX9_readColumn_18 : decode cX9_readColumn 18 = .ok (.iconst 0, 1) := by decide +kernel
theorem dX9_readColumn_19 : decode cX9_readColumn 19 = .ok (.istore_n 2, 1) := by decide +kernel
theorem dX9_readColumn_20 : decode cX9_readColumn 20 = .ok (.iload_n 2, 1) := by decide +kernel
theorem dX9_readColumn_21 : decode cX9_readColumn 21 = .ok (.ifCond .eq 7, 3) := by decide +kernel
theorem dX9_readColumn_24 : decode cX9_readColumn 24 = .ok (.lconst 0, 1) := by decide +kernel
theorem dX9_readColumn_25 : decode cX9_readColumn 25 = .ok (.goto 7, 3) := by decide +kernel
theorem dX9_readColumn_28 : decode cX9_readColumn 28 = .ok (.aload_n 0, 1) := by decide +kernel
theorem dX9_readColumn_29 : decode cX9_readColumn 29 = .ok (.invokevirtual 125, 3) := by decide +kernel
theorem dX9_readColumn_32 : decode cX9_readColumn 32 = .ok (.lstore_n 3, 1) := by decide +kernel
theorem dX9_readColumn_33 : decode cX9_readColumn 33 = .ok (.ldc2_w 177, 3) := by decide +kernel
theorem dX9_readColumn_36 : decode cX9_readColumn 36 = .ok (.lstore 5, 2) := by decide +kernel
theorem dX9_readColumn_38 : decode cX9_readColumn 38 = .ok (.aload_n 0, 1) := by decide +kernel
theorem dX9_readColumn_39 : decode cX9_readColumn 39 = .ok (.dup, 1) := by decide +kernel
theorem dX9_readColumn_40 : decode cX9_readColumn 40 = .ok (.getfield 99, 3) := by decide +kernel
theorem dX9_readColumn_43 : decode cX9_readColumn 43 = .ok (.iconst 1, 1) := by decide +kernel
theorem dX9_readColumn_44 : decode cX9_readColumn 44 = .ok (.iadd, 1) := by decide +kernel
theorem dX9_readColumn_45 : decode cX9_readColumn 45 = .ok (.putfield 99, 3) := by decide +kernel
theorem dX9_readColumn_48 : decode cX9_readColumn 48 = .ok (.iload_n 2, 1) := by decide +kernel
theorem dX9_readColumn_49 : decode cX9_readColumn 49 = .ok (.ifCond .ne 48, 3) := by decide +kernel
theorem dX9_readColumn_52 : decode cX9_readColumn 52 = .ok (.aload_n 0, 1) := by decide +kernel
theorem dX9_readColumn_53 : decode cX9_readColumn 53 = .ok (.bipush 44, 2) := by decide +kernel
theorem dX9_readColumn_55 : decode cX9_readColumn 55 = .ok (.invokevirtual 48, 3) := by decide +kernel
theorem dX9_readColumn_58 : decode cX9_readColumn 58 = .ok (.ifCond .eq 39, 3) := by decide +kernel
theorem dX9_readColumn_61 : decode cX9_readColumn 61 = .ok (.lload_n 3, 1) := by decide +kernel
theorem dX9_readColumn_62 : decode cX9_readColumn 62 = .ok (.lstore 5, 2) := by decide +kernel
theorem dX9_readColumn_64 : decode cX9_readColumn 64 = .ok (.aload_n 0, 1) := by decide +kernel
theorem dX9_readColumn_65 : decode cX9_readColumn 65 = .ok (.invokevirtual 114, 3) := by decide +kernel
theorem dX9_readColumn_68 : decode cX9_readColumn 68 = .ok (.bipush 38, 2) := by decide +kernel
theorem dX9_readColumn_70 : decode cX9_readColumn 70 = .ok (.if_icmp .ne 7, 3) := by decide +kernel
theorem dX9_readColumn_73 : decode cX9_readColumn 73 = .ok (.lconst 0, 1) := by decide +kernel
theorem dX9_readColumn_74 : decode cX9_readColumn 74 = .ok (.goto 7, 3) := by decide +kernel
theorem dX9_readColumn_77 : decode cX9_readColumn 77 = .ok (.aload_n 0, 1) := by decide +kernel
theorem dX9_readColumn_78 : decode cX9_readColumn 78 = .ok (.invokevirtual 125, 3) := by decide +kernel
theorem dX9_readColumn_81 : decode cX9_readColumn 81 = .ok (.lstore_n 3, 1) := by decide +kernel
theorem dX9_readColumn_82 : decode cX9_readColumn 82 = .ok (.aload_n 0, 1) := by decide +kernel
theorem dX9_readColumn_83 : decode cX9_readColumn 83 = .ok (.bipush 38, 2) := by decide +kernel
theorem dX9_readColumn_85 : decode cX9_readColumn 85 = .ok (.invokevirtual 48, 3) := by decide +kernel
theorem dX9_readColumn_88 : decode cX9_readColumn 88 = .ok (.ifCond .ne 9, 3) := by decide +kernel
theorem dX9_readColumn_91 : decode cX9_readColumn 91 = .ok (.aload_n 0, 1) := by decide +kernel
theorem dX9_readColumn_92 : decode cX9_readColumn 92 = .ok (.bipush 39, 2) := by decide +kernel
theorem dX9_readColumn_94 : decode cX9_readColumn 94 = .ok (.invokevirtual 60, 3) := by decide +kernel
theorem dX9_readColumn_97 : decode cX9_readColumn 97 = .ok (.aload_n 0, 1) := by decide +kernel
theorem dX9_readColumn_98 : decode cX9_readColumn 98 = .ok (.bipush 39, 2) := by decide +kernel
theorem dX9_readColumn_100 : decode cX9_readColumn 100 = .ok (.aload_n 0, 1) := by decide +kernel
theorem dX9_readColumn_101 : decode cX9_readColumn 101 = .ok (.getfield 26, 3) := by decide +kernel
theorem dX9_readColumn_104 : decode cX9_readColumn 104 = .ok (.getfield 296, 3) := by decide +kernel
theorem dX9_readColumn_107 : decode cX9_readColumn 107 = .ok (.iload_n 1, 1) := by decide +kernel
theorem dX9_readColumn_108 : decode cX9_readColumn 108 = .ok (.iload_n 1, 1) := by decide +kernel
theorem dX9_readColumn_109 : decode cX9_readColumn 109 = .ok (.iconst 0, 1) := by decide +kernel
theorem dX9_readColumn_110 : decode cX9_readColumn 110 = .ok (.invokevirtual 305, 3) := by decide +kernel
theorem dX9_readColumn_113 : decode cX9_readColumn 113 = .ok (.istore 7, 2) := by decide +kernel
theorem dX9_readColumn_115 : decode cX9_readColumn 115 = .ok (.aload_n 0, 1) := by decide +kernel
theorem dX9_readColumn_116 : decode cX9_readColumn 116 = .ok (.getfield 26, 3) := by decide +kernel
theorem dX9_readColumn_119 : decode cX9_readColumn 119 = .ok (.iload 7, 2) := by decide +kernel
theorem dX9_readColumn_121 : decode cX9_readColumn 121 = .ok (.invokevirtual 228, 3) := by decide +kernel
theorem dX9_readColumn_124 : decode cX9_readColumn 124 = .ok (.ifCond .eq 26, 3) := by decide +kernel
theorem dX9_readColumn_127 : decode cX9_readColumn 127 = .ok (.aload_n 0, 1) := by decide +kernel
theorem dX9_readColumn_128 : decode cX9_readColumn 128 = .ok (.getfield 26, 3) := by decide +kernel
theorem dX9_readColumn_131 : decode cX9_readColumn 131 = .ok (.getfield 231, 3) := by decide +kernel
theorem dX9_readColumn_134 : decode cX9_readColumn 134 = .ok (.iload 7, 2) := by decide +kernel
theorem dX9_readColumn_136 : decode cX9_readColumn 136 = .ok (.lload_n 3, 1) := by decide +kernel
theorem dX9_readColumn_137 : decode cX9_readColumn 137 = .ok (.lastore, 1) := by decide +kernel
theorem dX9_readColumn_138 : decode cX9_readColumn 138 = .ok (.aload_n 0, 1) := by decide +kernel
theorem dX9_readColumn_139 : decode cX9_readColumn 139 = .ok (.getfield 26, 3) := by decide +kernel
theorem dX9_readColumn_142 : decode cX9_readColumn 142 = .ok (.getfield 346, 3) := by decide +kernel
theorem dX9_readColumn_145 : decode cX9_readColumn 145 = .ok (.iload 7, 2) := by decide +kernel
theorem dX9_readColumn_147 : decode cX9_readColumn 147 = .ok (.lload 5, 2) := by decide +kernel
theorem dX9_readColumn_149 : decode cX9_readColumn 149 = .ok (.lastore, 1) := by decide +kernel
theorem dX9_readColumn_150 : decode cX9_readColumn 150 = .ok (.return_, 1) := by decide +kernel
def c_X9_readColumn_b150 (F : Nat) (cs1 : CS) : Option CS := some cs1
def c_X9_readColumn_b97 (F : Nat) (cs1 : CS) (u0 : Nat) (u1 : Int32) (u3 : Int64) (u5 : Int64) : Option CS := Option.bind (gR cs1 10 322 u0) fun v_1 => Option.bind (v_1) fun i_2 => Option.bind (gI cs1 2 64 i_2) fun v_3 => Option.bind (ckE cs1 10 u0) fun _ => Option.bind (c_X9_complete F cs1 u0 39 v_3 u1 u1 0) fun z_4 => Option.bind (gR z_4.1 10 322 u0) fun v_6 => Option.bind (v_6) fun i_8 => Option.bind (ckE z_4.1 2 i_8) fun _ => Option.bind (c_X1_has F z_4.1 i_8 z_4.2) fun v_7 => if v_7 = 0 then (c_X9_readColumn_b150 F z_4.1) else (Option.bind (gR z_4.1 10 322 u0) fun v_11 => Option.bind (v_11) fun i_12 => Option.bind (gA z_4.1 2 69 i_12) fun v_13 => Option.bind (wB z_4.1 69 i_12 v_13 z_4.2 u3) fun cs_14 => Option.bind (gR cs_14 10 322 u0) fun v_15 => Option.bind (v_15) fun i_16 => Option.bind (gA cs_14 2 70 i_16) fun v_17 => Option.bind (wB cs_14 70 i_16 v_17 z_4.2 u5) fun cs_18 => c_X9_readColumn_b150 F cs_18)
def c_X9_readColumn_b81 (F : Nat) (cs1 : CS) (u0 : Nat) (u1 : Int32) (u5 : Int64) (y0 : Int64) : Option CS := Option.bind (ckE cs1 10 u0) fun _ => Option.bind (c_X9_accept F cs1 u0 38) fun z_19 => if z_19.2 = 0 then (Option.bind (ckE z_19.1 10 u0) fun _ => Option.bind (c_X9_expect F z_19.1 u0 39) fun cs_22 => c_X9_readColumn_b97 F cs_22 u0 u1 y0 u5) else (c_X9_readColumn_b97 F z_19.1 u0 u1 y0 u5)
def c_X9_readColumn_b32 (F : Nat) (cs1 : CS) (u0 : Nat) (u1 : Int32) (u2 : Int32) (y0 : Int64) : Option CS := Option.bind (gI cs1 10 328 u0) fun v_24 => Option.bind (pI cs1 10 328 u0 (v_24 + 1)) fun cs_25 => if u2 = 0 then (Option.bind (ckE cs_25 10 u0) fun _ => Option.bind (c_X9_accept F cs_25 u0 44) fun z_27 => if z_27.2 = 0 then (c_X9_readColumn_b97 F z_27.1 u0 u1 y0 (-1)) else (Option.bind (ckE z_27.1 10 u0) fun _ => Option.bind (c_X9_kind F z_27.1 u0) fun v_30 => if v_30 = 38 then (c_X9_readColumn_b81 F z_27.1 u0 u1 y0 0) else (Option.bind (ckE z_27.1 10 u0) fun _ => Option.bind (c_X9_number F z_27.1 u0) fun v_33 => c_X9_readColumn_b81 F z_27.1 u0 u1 y0 v_33))) else (c_X9_readColumn_b97 F cs_25 u0 u1 y0 (-1))
def c_X9_readColumn_b19 (F : Nat) (cs1 : CS) (u0 : Nat) (u1 : Int32) (y0 : Int32) : Option CS := if y0 = 0 then (Option.bind (ckE cs1 10 u0) fun _ => Option.bind (c_X9_number F cs1 u0) fun v_36 => c_X9_readColumn_b32 F cs1 u0 u1 y0 v_36) else (c_X9_readColumn_b32 F cs1 u0 u1 y0 0)
def c_X9_readColumn (F : Nat) (cs : CS) (x0 : Nat) : Option CS := Option.bind (ckE cs 10 x0) fun _ => Option.bind (c_X9_here F cs x0) fun v_38 => Option.bind (ckE cs 10 x0) fun _ => Option.bind (c_X9_kind F cs x0) fun v_40 => if v_40 = 38 then (c_X9_readColumn_b19 F cs x0 v_38 1) else (c_X9_readColumn_b19 F cs x0 v_38 0)
theorem cw_X9_X9_readColumn {R : Room} {s : State} {args : Array Value} {y0 : MethodName} {c0 : ByteArray} {n0 : Nat} {r0 : Option FieldType} (hts : ∀ w ∈ wsOf y0 c0 n0 r0, w.before args s = true) {fr : Nat} (h1 : fr + 1 ≤ R.frames) (h2 : 8 + (8 + 11) + 60 * fr ≤ R.locals) : CallW R s args RX9 RX9 334 yX9_readColumn cX9_readColumn 8 none (wsOf yX9_readColumn cX9_readColumn 8 none) ({ frames := fr, cells := 0, slots := 0, locals := 60 * fr } : Room) 0 0 0 := cwV 0 hts (gd_all (in_V kw_1000 kw_1002 kw_31 kw_193 kc_X9_readColumn)) rfl rfl rfl (by decide +kernel) ⟨h1, h2⟩
set_option maxHeartbeats 4000000 in
set_option maxRecDepth 100000 in
theorem sc_X9_readColumn (l : Launch) (dC : Nat → ClassId) (dI : Nat → Nat → Nat) (cB cI cJ cZ cS cO : ClassId) (b : Nat) (K V : Nat → Nat) (fz : Value) (F : Nat) (cs : CS) (x0 : Nat) (cs9 : CS) (hf : c_X9_readColumn F cs x0 = some cs9) : ocV l dC dI cB cI cJ cZ cS cO b K V fz yX9_readColumn (wsOf yX9_readColumn cX9_readColumn 8 none) (2) [.ref (b + x0)] cs cs9 := by
  intro sz
  refine Met.ofW (cc := cX9_readColumn) (maxL := 8) (ret := none) (by decide) rfl ?_
  intro p e s m args below meth c s₁ B hml hv
  obtain ⟨rfl, hsz, hP, hK, hD0, hZ⟩ := hv
  have hx := B.exec
  have hb := B.bytes
  have hr := B.returns
  have hts := atoms_spec (ws := (wsOf yX9_readColumn cX9_readColumn 8 none)) B.pre
  have hown : s.vm.findClass RX9 = some m.cls := findClass_of_methodNamed B.named
  have hlocks := B.notSynchronized
  subst hsz
  have hD := hD0.self (sz := s.heap.size)
  generalize hAe : va_A (cW cB cI cJ cZ cS cO b cs) s.heap.size = A at hD hZ ⊢
  have hA : ∀ q : Nat, s.heap.size ≤ q → A q := fun q h => by rw [← hAe]; exact Or.inr h
  have hS : va_S A s.heap s.heap [] := va_S.rf
  have hl := lv_entry ([.ref (b + x0)]) (n := 8) (Nat.le_of_ble_eq_true rfl)
  rw [lg_entry_eq]
  generalize (lg_sl ([.ref (b + x0)]) ++ List.replicate (8 - (lg_sl ([.ref (b + x0)])).length) Slot.unset).toArray = ls at hl ⊢
  have hl : lv_has ls 8 [(0, .ref (b + x0))] := hl
  have B_150 : ∀ (cs1 : CS) , c_X9_readColumn_b150 F cs1 = some cs9 → ∀ (H : Heap) (locs : List Loc) (ls : Array Slot), va_P (dC, dI) vwCl (cW cB cI cJ cZ cS cO b cs1) H → va_D A (cW cB cI cJ cZ cS cO b cs1) → va_S A s.heap H locs → lv_has ls 8 [] → W p l e (headSpec (wsOf yX9_readColumn cX9_readColumn 8 none) ({ frames := 2, cells := 0, slots := 0, locals := 60 * (2) } : Room)).room s m ([.ref (b + x0)] : List Value).toArray below meth c H locs 0 0 (MQ below (va_Qv (fun (_ : Unit) => True) (fun _ t_ => va_P (dC, dI) vwCl (cW cB cI cJ cZ cS cO b cs9) t_.heap ∧ va_D A (cW cB cI cJ cZ cS cO b cs9)) A) ([.ref (b + x0)] : List Value).toArray s 0 0 A) (F0 m 150 ls []) := by
    intro cs1  h H locs ls hP hD hS hl
    unfold c_X9_readColumn_b150 at h
    have e1 := Option.some.inj h
    rw [e1] at hP hD
    exact W.vret hx hb hr (fun t_ ht hW => ⟨⟨(), rfl, trivial, by rw [ht]; exact hP, hD⟩, hS.F ht⟩) hS.2.2 dX9_readColumn_150
  have B_97 : ∀ (cs1 : CS) (u0 : Nat) (u1 : Int32) (u3 : Int64) (u5 : Int64), c_X9_readColumn_b97 F cs1 u0 u1 u3 u5 = some cs9 → ∀ (H : Heap) (locs : List Loc) (ls : Array Slot), va_P (dC, dI) vwCl (cW cB cI cJ cZ cS cO b cs1) H → va_D A (cW cB cI cJ cZ cS cO b cs1) → va_S A s.heap H locs → lv_has ls 8 [(0, .ref (b + u0)), (1, .int u1), (3, .long u3), (5, .long u5)] → W p l e (headSpec (wsOf yX9_readColumn cX9_readColumn 8 none) ({ frames := 2, cells := 0, slots := 0, locals := 60 * (2) } : Room)).room s m ([.ref (b + x0)] : List Value).toArray below meth c H locs 0 0 (MQ below (va_Qv (fun (_ : Unit) => True) (fun _ t_ => va_P (dC, dI) vwCl (cW cB cI cJ cZ cS cO b cs9) t_.heap ∧ va_D A (cW cB cI cJ cZ cS cO b cs9)) A) ([.ref (b + x0)] : List Value).toArray s 0 0 A) (F0 m 97 ls []) := by
    intro cs1 u0 u1 u3 u5 h H locs ls hP hD hS hl
    unfold c_X9_readColumn_b97 at h
    refine lv_aload_n hx hb dX9_readColumn_97 rfl (lv_at hl 0 rfl) ?_
    refine lv_bipush (v := 39) hx hb dX9_readColumn_98 (by decide) ?_
    refine lv_aload_n hx hb dX9_readColumn_100 rfl (lv_at hl 0 rfl) ?_
    replace h := ob h; obtain ⟨v_1, hv_1, h⟩ := h
    refine fg_X9_26 hx hb hts hown hK hP hv_1 dX9_readColumn_101 ?_
    replace h := ob h; obtain ⟨i_2, hi_2, h⟩ := h
    subst hi_2
    replace h := ob h; obtain ⟨v_3, hv_3, h⟩ := h
    refine fg_X9_296 hx hb hts hown hK hP hv_3 dX9_readColumn_104 ?_
    refine lv_iload_n hx hb dX9_readColumn_107 rfl (lv_at hl 1 rfl) ?_
    refine lv_iload_n hx hb dX9_readColumn_108 rfl (lv_at hl 1 rfl) ?_
    refine lv_iconst (v := 0) hx hb dX9_readColumn_109 (by decide) ?_
    replace h := ob h; obtain ⟨w_5, hw_5, h⟩ := h
    replace h := ob h; obtain ⟨z_4, hv_4, h⟩ := h
    refine ccI (As := [.int 39, .int v_3, .int u1, .int u1, .int 0]) hx hb hml hts hown hK hP hD hS hA hZ (X := 10) (by decide) rfl (ckE_some hw_5) (sc_X9_complete l dC dI cB cI cJ cZ cS cO b K V fz F cs1 u0 39 v_3 u1 u1 0 z_4.1 z_4.2 hv_4) (cw_X9_X9_complete hts (fr := 1) (Nat.le_of_ble_eq_true rfl) (Nat.le_of_ble_eq_true rfl)) rfl hl.1 (Nat.le_of_ble_eq_true rfl) ⟨Nat.zero_le _, Nat.zero_le _⟩ dX9_readColumn_110 (fun H locs hP hD hS => ?_)
    refine lv_istore (lv' := [(7, .int z_4.2), (0, .ref (b + u0)), (1, .int u1), (3, .long u3), (5, .long u5)]) hx hb dX9_readColumn_113 hl (by decide) rfl (fun ls hl => ?_)
    refine lv_aload_n hx hb dX9_readColumn_115 rfl (lv_at hl 1 rfl) ?_
    replace h := ob h; obtain ⟨v_6, hv_6, h⟩ := h
    refine fg_X9_26 hx hb hts hown hK hP hv_6 dX9_readColumn_116 ?_
    refine lv_iload hx hb dX9_readColumn_119 (lv_at hl 0 rfl) ?_
    replace h := ob h; obtain ⟨i_8, hi_8, h⟩ := h
    subst hi_8
    replace h := ob h; obtain ⟨w_9, hw_9, h⟩ := h
    replace h := ob h; obtain ⟨v_7, hv_7, h⟩ := h
    refine ccI (As := [.int z_4.2]) hx hb hml hts hown hK hP hD hS hA hZ (X := 2) (by decide) rfl (ckE_some hw_9) (sc_X1_has l dC dI cB cI cJ cZ cS cO b K V fz F z_4.1 i_8 z_4.2 v_7 hv_7) (cw_X9_X1_has hts (fr := 0) (Nat.le_of_ble_eq_true rfl) (Nat.le_of_ble_eq_true rfl)) rfl hl.1 (Nat.le_of_ble_eq_true rfl) ⟨Nat.zero_le _, Nat.zero_le _⟩ dX9_readColumn_121 (fun H locs hP hD hS => ?_)
    refine lv_if_eq (tgt := 150) hx hb dX9_readColumn_124 (by decide) (fun c_10 => ?_) (fun c_10 => ?_)
    · skip
      replace h := (if_pos c_10).symm.trans h
      exact B_150 z_4.1 h _ _ _ hP hD hS (lv_sub hl [] rfl)
    · skip
      replace h := (if_neg c_10).symm.trans h
      refine lv_aload_n hx hb dX9_readColumn_127 rfl (lv_at hl 1 rfl) ?_
      replace h := ob h; obtain ⟨v_11, hv_11, h⟩ := h
      refine fg_X9_26 hx hb hts hown hK hP hv_11 dX9_readColumn_128 ?_
      replace h := ob h; obtain ⟨i_12, hi_12, h⟩ := h
      subst hi_12
      replace h := ob h; obtain ⟨v_13, hv_13, h⟩ := h
      refine fg_X9_231 hx hb hts hown hK hP hv_13 dX9_readColumn_131 ?_
      refine lv_iload hx hb dX9_readColumn_134 (lv_at hl 0 rfl) ?_
      refine lv_lload_n hx hb dX9_readColumn_136 rfl (lv_at hl 3 rfl) ?_
      replace h := ob h; obtain ⟨cs_14, hv_14, h⟩ := h
      refine ast2 hx hb hK hP hD hS rfl hv_14 dX9_readColumn_137 (fun H locs hP hD hS => ?_)
      refine lv_aload_n hx hb dX9_readColumn_138 rfl (lv_at hl 1 rfl) ?_
      replace h := ob h; obtain ⟨v_15, hv_15, h⟩ := h
      refine fg_X9_26 hx hb hts hown hK hP hv_15 dX9_readColumn_139 ?_
      replace h := ob h; obtain ⟨i_16, hi_16, h⟩ := h
      subst hi_16
      replace h := ob h; obtain ⟨v_17, hv_17, h⟩ := h
      refine fg_X9_346 hx hb hts hown hK hP hv_17 dX9_readColumn_142 ?_
      refine lv_iload hx hb dX9_readColumn_145 (lv_at hl 0 rfl) ?_
      refine lv_lload hx hb dX9_readColumn_147 (lv_at hl 4 rfl) ?_
      replace h := ob h; obtain ⟨cs_18, hv_18, h⟩ := h
      refine ast2 hx hb hK hP hD hS rfl hv_18 dX9_readColumn_149 (fun H locs hP hD hS => ?_)
      exact B_150 cs_18 h _ _ _ hP hD hS (lv_sub hl [] rfl)
  have B_81 : ∀ (cs1 : CS) (u0 : Nat) (u1 : Int32) (u5 : Int64) (y0 : Int64), c_X9_readColumn_b81 F cs1 u0 u1 u5 y0 = some cs9 → ∀ (H : Heap) (locs : List Loc) (ls : Array Slot), va_P (dC, dI) vwCl (cW cB cI cJ cZ cS cO b cs1) H → va_D A (cW cB cI cJ cZ cS cO b cs1) → va_S A s.heap H locs → lv_has ls 8 [(0, .ref (b + u0)), (1, .int u1), (5, .long u5)] → W p l e (headSpec (wsOf yX9_readColumn cX9_readColumn 8 none) ({ frames := 2, cells := 0, slots := 0, locals := 60 * (2) } : Room)).room s m ([.ref (b + x0)] : List Value).toArray below meth c H locs 0 0 (MQ below (va_Qv (fun (_ : Unit) => True) (fun _ t_ => va_P (dC, dI) vwCl (cW cB cI cJ cZ cS cO b cs9) t_.heap ∧ va_D A (cW cB cI cJ cZ cS cO b cs9)) A) ([.ref (b + x0)] : List Value).toArray s 0 0 A) (F0 m 81 ls [.long y0]) := by
    intro cs1 u0 u1 u5 y0 h H locs ls hP hD hS hl
    unfold c_X9_readColumn_b81 at h
    refine lv_lstore_n (lv' := [(3, .long y0), (0, .ref (b + u0)), (1, .int u1), (5, .long u5)]) hx hb dX9_readColumn_81 rfl hl (by decide) rfl (fun ls hl => ?_)
    refine lv_aload_n hx hb dX9_readColumn_82 rfl (lv_at hl 1 rfl) ?_
    refine lv_bipush (v := 38) hx hb dX9_readColumn_83 (by decide) ?_
    replace h := ob h; obtain ⟨w_20, hw_20, h⟩ := h
    replace h := ob h; obtain ⟨z_19, hv_19, h⟩ := h
    refine ccI (As := [.int 38]) hx hb hml hts hown hK hP hD hS hA hZ (X := 10) (by decide) rfl (ckE_some hw_20) (sc_X9_accept l dC dI cB cI cJ cZ cS cO b K V fz F cs1 u0 38 z_19.1 z_19.2 hv_19) (cw_X9_X9_accept hts (fr := 1) (Nat.le_of_ble_eq_true rfl) (Nat.le_of_ble_eq_true rfl)) rfl hl.1 (Nat.le_of_ble_eq_true rfl) ⟨Nat.zero_le _, Nat.zero_le _⟩ dX9_readColumn_85 (fun H locs hP hD hS => ?_)
    refine lv_if_ne (tgt := 97) hx hb dX9_readColumn_88 (by decide) (fun c_21 => ?_) (fun c_21 => ?_)
    · skip
      replace h := (if_neg c_21).symm.trans h
      exact B_97 z_19.1 u0 u1 y0 u5 h _ _ _ hP hD hS (lv_sub hl [1, 2, 0, 3] rfl)
    · skip
      replace h := (if_pos c_21).symm.trans h
      refine lv_aload_n hx hb dX9_readColumn_91 rfl (lv_at hl 1 rfl) ?_
      refine lv_bipush (v := 39) hx hb dX9_readColumn_92 (by decide) ?_
      replace h := ob h; obtain ⟨w_23, hw_23, h⟩ := h
      replace h := ob h; obtain ⟨cs_22, hv_22, h⟩ := h
      refine ccV (As := [.int 39]) hx hb hml hts hown hK hP hD hS hA hZ (X := 10) (by decide) rfl (ckE_some hw_23) (sc_X9_expect l dC dI cB cI cJ cZ cS cO b K V fz F z_19.1 u0 39 cs_22 hv_22) (cw_X9_X9_expect hts (fr := 1) (Nat.le_of_ble_eq_true rfl) (Nat.le_of_ble_eq_true rfl)) rfl hl.1 (Nat.le_of_ble_eq_true rfl) ⟨Nat.zero_le _, Nat.zero_le _⟩ dX9_readColumn_94 (fun H locs hP hD hS => ?_)
      exact B_97 cs_22 u0 u1 y0 u5 h _ _ _ hP hD hS (lv_sub hl [1, 2, 0, 3] rfl)
  have B_32 : ∀ (cs1 : CS) (u0 : Nat) (u1 : Int32) (u2 : Int32) (y0 : Int64), c_X9_readColumn_b32 F cs1 u0 u1 u2 y0 = some cs9 → ∀ (H : Heap) (locs : List Loc) (ls : Array Slot), va_P (dC, dI) vwCl (cW cB cI cJ cZ cS cO b cs1) H → va_D A (cW cB cI cJ cZ cS cO b cs1) → va_S A s.heap H locs → lv_has ls 8 [(0, .ref (b + u0)), (1, .int u1), (2, .int u2)] → W p l e (headSpec (wsOf yX9_readColumn cX9_readColumn 8 none) ({ frames := 2, cells := 0, slots := 0, locals := 60 * (2) } : Room)).room s m ([.ref (b + x0)] : List Value).toArray below meth c H locs 0 0 (MQ below (va_Qv (fun (_ : Unit) => True) (fun _ t_ => va_P (dC, dI) vwCl (cW cB cI cJ cZ cS cO b cs9) t_.heap ∧ va_D A (cW cB cI cJ cZ cS cO b cs9)) A) ([.ref (b + x0)] : List Value).toArray s 0 0 A) (F0 m 32 ls [.long y0]) := by
    intro cs1 u0 u1 u2 y0 h H locs ls hP hD hS hl
    unfold c_X9_readColumn_b32 at h
    refine lv_lstore_n (lv' := [(3, .long y0), (0, .ref (b + u0)), (1, .int u1), (2, .int u2)]) hx hb dX9_readColumn_32 rfl hl (by decide) rfl (fun ls hl => ?_)
    refine lv_ldc2 hx hb hown (hts _ (List.mem_cons_of_mem _ kw_1004)) dX9_readColumn_33 ?_
    refine lv_lstore (lv' := [(5, .long (-1)), (3, .long y0), (0, .ref (b + u0)), (1, .int u1), (2, .int u2)]) hx hb dX9_readColumn_36 hl (by decide) rfl (fun ls hl => ?_)
    refine lv_aload_n hx hb dX9_readColumn_38 rfl (lv_at hl 2 rfl) ?_
    refine lv_dup hx hb dX9_readColumn_39 rfl ?_
    replace h := ob h; obtain ⟨v_24, hv_24, h⟩ := h
    refine fg_X9_99 hx hb hts hown hK hP hv_24 dX9_readColumn_40 ?_
    refine lv_iconst (v := 1) hx hb dX9_readColumn_43 (by decide) ?_
    refine lv_iadd hx hb dX9_readColumn_44 ?_
    replace h := ob h; obtain ⟨cs_25, hv_25, h⟩ := h
    refine fp_X9_99 hx hb hts hown hK hP hD hS hv_25 dX9_readColumn_45 (fun H locs hP hD hS => ?_)
    refine lv_iload_n hx hb dX9_readColumn_48 rfl (lv_at hl 4 rfl) ?_
    refine lv_if_ne (tgt := 97) hx hb dX9_readColumn_49 (by decide) (fun c_26 => ?_) (fun c_26 => ?_)
    · skip
      replace h := (if_neg c_26).symm.trans h
      exact B_97 cs_25 u0 u1 y0 (-1) h _ _ _ hP hD hS (lv_sub hl [2, 3, 1, 0] rfl)
    · skip
      replace h := (if_pos c_26).symm.trans h
      refine lv_aload_n hx hb dX9_readColumn_52 rfl (lv_at hl 2 rfl) ?_
      refine lv_bipush (v := 44) hx hb dX9_readColumn_53 (by decide) ?_
      replace h := ob h; obtain ⟨w_28, hw_28, h⟩ := h
      replace h := ob h; obtain ⟨z_27, hv_27, h⟩ := h
      refine ccI (As := [.int 44]) hx hb hml hts hown hK hP hD hS hA hZ (X := 10) (by decide) rfl (ckE_some hw_28) (sc_X9_accept l dC dI cB cI cJ cZ cS cO b K V fz F cs_25 u0 44 z_27.1 z_27.2 hv_27) (cw_X9_X9_accept hts (fr := 1) (Nat.le_of_ble_eq_true rfl) (Nat.le_of_ble_eq_true rfl)) rfl hl.1 (Nat.le_of_ble_eq_true rfl) ⟨Nat.zero_le _, Nat.zero_le _⟩ dX9_readColumn_55 (fun H locs hP hD hS => ?_)
      refine lv_if_eq (tgt := 97) hx hb dX9_readColumn_58 (by decide) (fun c_29 => ?_) (fun c_29 => ?_)
      · skip
        replace h := (if_pos c_29).symm.trans h
        exact B_97 z_27.1 u0 u1 y0 (-1) h _ _ _ hP hD hS (lv_sub hl [2, 3, 1, 0] rfl)
      · skip
        replace h := (if_neg c_29).symm.trans h
        refine lv_lload_n hx hb dX9_readColumn_61 rfl (lv_at hl 1 rfl) ?_
        refine lv_lstore (lv' := [(5, .long y0), (3, .long y0), (0, .ref (b + u0)), (1, .int u1), (2, .int u2)]) hx hb dX9_readColumn_62 hl (by decide) rfl (fun ls hl => ?_)
        refine lv_aload_n hx hb dX9_readColumn_64 rfl (lv_at hl 2 rfl) ?_
        replace h := ob h; obtain ⟨w_31, hw_31, h⟩ := h
        replace h := ob h; obtain ⟨v_30, hv_30, h⟩ := h
        refine ccI (As := []) hx hb hml hts hown hK hP hD hS hA hZ (X := 10) (by decide) rfl (ckE_some hw_31) (sc_X9_kind l dC dI cB cI cJ cZ cS cO b K V fz F z_27.1 u0 v_30 hv_30) (cw_X9_X9_kind hts (fr := 0) (Nat.le_of_ble_eq_true rfl) (Nat.le_of_ble_eq_true rfl)) rfl hl.1 (Nat.le_of_ble_eq_true rfl) ⟨Nat.zero_le _, Nat.zero_le _⟩ dX9_readColumn_65 (fun H locs hP hD hS => ?_)
        refine lv_bipush (v := 38) hx hb dX9_readColumn_68 (by decide) ?_
        refine lv_icmp_ne (tgt := 77) hx hb dX9_readColumn_70 (by decide) (fun c_32 => ?_) (fun c_32 => ?_)
        · skip
          replace h := (if_neg c_32).symm.trans h
          refine lv_aload_n hx hb dX9_readColumn_77 rfl (lv_at hl 2 rfl) ?_
          replace h := ob h; obtain ⟨w_34, hw_34, h⟩ := h
          replace h := ob h; obtain ⟨v_33, hv_33, h⟩ := h
          refine ccL (As := []) hx hb hml hts hown hK hP hD hS hA hZ (X := 10) (by decide) rfl (ckE_some hw_34) (sc_X9_number l dC dI cB cI cJ cZ cS cO b K V fz F z_27.1 u0 v_33 hv_33) (cw_X9_X9_number hts (fr := 0) (Nat.le_of_ble_eq_true rfl) (Nat.le_of_ble_eq_true rfl)) rfl hl.1 (Nat.le_of_ble_eq_true rfl) ⟨Nat.zero_le _, Nat.zero_le _⟩ dX9_readColumn_78 (fun H locs hP hD hS => ?_)
          exact B_81 z_27.1 u0 u1 y0 v_33 h _ _ _ hP hD hS (lv_sub hl [2, 3, 0] rfl)
        · skip
          replace h := (if_pos c_32).symm.trans h
          refine lv_lconst (v := 0) hx hb dX9_readColumn_73 (by decide) ?_
          refine lv_goto (tgt := 81) hx hb dX9_readColumn_74 (by decide) ?_
          exact B_81 z_27.1 u0 u1 y0 0 h _ _ _ hP hD hS (lv_sub hl [2, 3, 0] rfl)
  have B_19 : ∀ (cs1 : CS) (u0 : Nat) (u1 : Int32) (y0 : Int32), c_X9_readColumn_b19 F cs1 u0 u1 y0 = some cs9 → ∀ (H : Heap) (locs : List Loc) (ls : Array Slot), va_P (dC, dI) vwCl (cW cB cI cJ cZ cS cO b cs1) H → va_D A (cW cB cI cJ cZ cS cO b cs1) → va_S A s.heap H locs → lv_has ls 8 [(0, .ref (b + u0)), (1, .int u1)] → W p l e (headSpec (wsOf yX9_readColumn cX9_readColumn 8 none) ({ frames := 2, cells := 0, slots := 0, locals := 60 * (2) } : Room)).room s m ([.ref (b + x0)] : List Value).toArray below meth c H locs 0 0 (MQ below (va_Qv (fun (_ : Unit) => True) (fun _ t_ => va_P (dC, dI) vwCl (cW cB cI cJ cZ cS cO b cs9) t_.heap ∧ va_D A (cW cB cI cJ cZ cS cO b cs9)) A) ([.ref (b + x0)] : List Value).toArray s 0 0 A) (F0 m 19 ls [.int y0]) := by
    intro cs1 u0 u1 y0 h H locs ls hP hD hS hl
    unfold c_X9_readColumn_b19 at h
    refine lv_istore_n (lv' := [(2, .int y0), (0, .ref (b + u0)), (1, .int u1)]) hx hb dX9_readColumn_19 rfl hl (by decide) rfl (fun ls hl => ?_)
    refine lv_iload_n hx hb dX9_readColumn_20 rfl (lv_at hl 0 rfl) ?_
    refine lv_if_eq (tgt := 28) hx hb dX9_readColumn_21 (by decide) (fun c_35 => ?_) (fun c_35 => ?_)
    · skip
      replace h := (if_pos c_35).symm.trans h
      refine lv_aload_n hx hb dX9_readColumn_28 rfl (lv_at hl 1 rfl) ?_
      replace h := ob h; obtain ⟨w_37, hw_37, h⟩ := h
      replace h := ob h; obtain ⟨v_36, hv_36, h⟩ := h
      refine ccL (As := []) hx hb hml hts hown hK hP hD hS hA hZ (X := 10) (by decide) rfl (ckE_some hw_37) (sc_X9_number l dC dI cB cI cJ cZ cS cO b K V fz F cs1 u0 v_36 hv_36) (cw_X9_X9_number hts (fr := 0) (Nat.le_of_ble_eq_true rfl) (Nat.le_of_ble_eq_true rfl)) rfl hl.1 (Nat.le_of_ble_eq_true rfl) ⟨Nat.zero_le _, Nat.zero_le _⟩ dX9_readColumn_29 (fun H locs hP hD hS => ?_)
      exact B_32 cs1 u0 u1 y0 v_36 h _ _ _ hP hD hS (lv_sub hl [1, 2, 0] rfl)
    · skip
      replace h := (if_neg c_35).symm.trans h
      refine lv_lconst (v := 0) hx hb dX9_readColumn_24 (by decide) ?_
      refine lv_goto (tgt := 32) hx hb dX9_readColumn_25 (by decide) ?_
      exact B_32 cs1 u0 u1 y0 0 h _ _ _ hP hD hS (lv_sub hl [1, 2, 0] rfl)
  have h := hf
  unfold c_X9_readColumn at h
  refine lv_aload_n hx hb dX9_readColumn_0 rfl (lv_at hl 0 rfl) ?_
  replace h := ob h; obtain ⟨w_39, hw_39, h⟩ := h
  replace h := ob h; obtain ⟨v_38, hv_38, h⟩ := h
  refine ccI (As := []) hx hb hml hts hown hK hP hD hS hA hZ (X := 10) (by decide) rfl (ckE_some hw_39) (sc_X9_here l dC dI cB cI cJ cZ cS cO b K V fz F cs x0 v_38 hv_38) (cw_X9_X9_here hts (fr := 0) (Nat.le_of_ble_eq_true rfl) (Nat.le_of_ble_eq_true rfl)) rfl hl.1 (Nat.le_of_ble_eq_true rfl) ⟨Nat.zero_le _, Nat.zero_le _⟩ dX9_readColumn_1 (fun H locs hP hD hS => ?_)
  refine lv_istore_n (lv' := [(1, .int v_38), (0, .ref (b + x0))]) hx hb dX9_readColumn_4 rfl hl (by decide) rfl (fun ls hl => ?_)
  refine lv_aload_n hx hb dX9_readColumn_5 rfl (lv_at hl 1 rfl) ?_
  replace h := ob h; obtain ⟨w_41, hw_41, h⟩ := h
  replace h := ob h; obtain ⟨v_40, hv_40, h⟩ := h
  refine ccI (As := []) hx hb hml hts hown hK hP hD hS hA hZ (X := 10) (by decide) rfl (ckE_some hw_41) (sc_X9_kind l dC dI cB cI cJ cZ cS cO b K V fz F cs x0 v_40 hv_40) (cw_X9_X9_kind hts (fr := 0) (Nat.le_of_ble_eq_true rfl) (Nat.le_of_ble_eq_true rfl)) rfl hl.1 (Nat.le_of_ble_eq_true rfl) ⟨Nat.zero_le _, Nat.zero_le _⟩ dX9_readColumn_6 (fun H locs hP hD hS => ?_)
  refine lv_bipush (v := 38) hx hb dX9_readColumn_9 (by decide) ?_
  refine lv_icmp_ne (tgt := 18) hx hb dX9_readColumn_11 (by decide) (fun c_42 => ?_) (fun c_42 => ?_)
  · skip
    replace h := (if_neg c_42).symm.trans h
    refine lv_iconst (v := 0) hx hb dX9_readColumn_18 (by decide) ?_
    exact B_19 cs x0 v_38 0 h _ _ _ hP hD hS (lv_sub hl [1, 0] rfl)
  · skip
    replace h := (if_pos c_42).symm.trans h
    refine lv_iconst (v := 1) hx hb dX9_readColumn_14 (by decide) ?_
    refine lv_goto (tgt := 19) hx hb dX9_readColumn_15 (by decide) ?_
    exact B_19 cs x0 v_38 1 h _ _ _ hP hD hS (lv_sub hl [1, 0] rfl)
theorem dX9_deepen_0 : decode cX9_deepen 0 = .ok (.aload_n 0, 1) := by decide +kernel
theorem dX9_deepen_1 : decode cX9_deepen 1 = .ok (.getfield 275, 3) := by decide +kernel
theorem dX9_deepen_4 : decode cX9_deepen 4 = .ok (.bipush 12, 2) := by decide +kernel
theorem dX9_deepen_6 : decode cX9_deepen 6 = .ok (.if_icmp .lt 13, 3) := by decide +kernel
theorem dX9_deepen_9 : decode cX9_deepen 9 = .ok (.aload_n 0, 1) := by decide +kernel
theorem dX9_deepen_10 : decode cX9_deepen 10 = .ok (.bipush 7, 2) := by decide +kernel
theorem dX9_deepen_12 : decode cX9_deepen 12 = .ok (.aload_n 0, 1) := by decide +kernel
theorem dX9_deepen_13 : decode cX9_deepen 13 = .ok (.invokevirtual 118, 3) := by decide +kernel
theorem dX9_deepen_16 : decode cX9_deepen 16 = .ok (.invokevirtual 121, 3) := by decide +kernel
theorem dX9_deepen_19 : decode cX9_deepen 19 = .ok (.aload_n 0, 1) := by decide +kernel
theorem dX9_deepen_20 : decode cX9_deepen 20 = .ok (.dup, 1) := by decide +kernel
theorem dX9_deepen_21 : decode cX9_deepen 21 = .ok (.getfield 275, 3) := by decide +kernel
theorem dX9_deepen_24 : decode cX9_deepen 24 = .ok (.iconst 1, 1) := by decide +kernel
theorem dX9_deepen_25 : decode cX9_deepen 25 = .ok (.iadd, 1) := by decide +kernel
theorem dX9_deepen_26 : decode cX9_deepen 26 = .ok (.putfield 275, 3) := by decide +kernel
theorem dX9_deepen_29 : decode cX9_deepen 29 = .ok (.return_, 1) := by decide +kernel
def c_X9_deepen_b19 (F : Nat) (cs1 : CS) (u0 : Nat) : Option CS := Option.bind (gI cs1 10 329 u0) fun v_1 => Option.bind (pI cs1 10 329 u0 (v_1 + 1)) fun cs_2 => some cs_2
def c_X9_deepen (F : Nat) (cs : CS) (x0 : Nat) : Option CS := Option.bind (gI cs 10 329 x0) fun v_3 => if v_3 < 12 then (c_X9_deepen_b19 F cs x0) else (Option.bind (ckE cs 10 x0) fun _ => Option.bind (c_X9_here F cs x0) fun v_5 => Option.bind (ckE cs 10 x0) fun _ => Option.bind (c_X9_refuse F cs x0 7 v_5) fun cs_7 => c_X9_deepen_b19 F cs_7 x0)
theorem cw_X9_X9_deepen {R : Room} {s : State} {args : Array Value} {y0 : MethodName} {c0 : ByteArray} {n0 : Nat} {r0 : Option FieldType} (hts : ∀ w ∈ wsOf y0 c0 n0 r0, w.before args s = true) {fr : Nat} (h1 : fr + 1 ≤ R.frames) (h2 : 8 + (1 + 11) + 60 * fr ≤ R.locals) : CallW R s args RX9 RX9 266 yX9_deepen cX9_deepen 1 none (wsOf yX9_deepen cX9_deepen 1 none) ({ frames := fr, cells := 0, slots := 0, locals := 60 * fr } : Room) 0 0 0 := cwV 0 hts (gd_all (in_V kw_1005 kw_1007 kw_32 kw_193 kc_X9_deepen)) rfl rfl rfl (by decide +kernel) ⟨h1, h2⟩
set_option maxHeartbeats 4000000 in
set_option maxRecDepth 100000 in
theorem sc_X9_deepen (l : Launch) (dC : Nat → ClassId) (dI : Nat → Nat → Nat) (cB cI cJ cZ cS cO : ClassId) (b : Nat) (K V : Nat → Nat) (fz : Value) (F : Nat) (cs : CS) (x0 : Nat) (cs9 : CS) (hf : c_X9_deepen F cs x0 = some cs9) : ocV l dC dI cB cI cJ cZ cS cO b K V fz yX9_deepen (wsOf yX9_deepen cX9_deepen 1 none) (1) [.ref (b + x0)] cs cs9 := by
  intro sz
  refine Met.ofW (cc := cX9_deepen) (maxL := 1) (ret := none) (by decide) rfl ?_
  intro p e s m args below meth c s₁ B hml hv
  obtain ⟨rfl, hsz, hP, hK, hD0, hZ⟩ := hv
  have hx := B.exec
  have hb := B.bytes
  have hr := B.returns
  have hts := atoms_spec (ws := (wsOf yX9_deepen cX9_deepen 1 none)) B.pre
  have hown : s.vm.findClass RX9 = some m.cls := findClass_of_methodNamed B.named
  have hlocks := B.notSynchronized
  subst hsz
  have hD := hD0.self (sz := s.heap.size)
  generalize hAe : va_A (cW cB cI cJ cZ cS cO b cs) s.heap.size = A at hD hZ ⊢
  have hA : ∀ q : Nat, s.heap.size ≤ q → A q := fun q h => by rw [← hAe]; exact Or.inr h
  have hS : va_S A s.heap s.heap [] := va_S.rf
  have hl := lv_entry ([.ref (b + x0)]) (n := 1) (Nat.le_of_ble_eq_true rfl)
  rw [lg_entry_eq]
  generalize (lg_sl ([.ref (b + x0)]) ++ List.replicate (1 - (lg_sl ([.ref (b + x0)])).length) Slot.unset).toArray = ls at hl ⊢
  have hl : lv_has ls 1 [(0, .ref (b + x0))] := hl
  have B_19 : ∀ (cs1 : CS) (u0 : Nat), c_X9_deepen_b19 F cs1 u0 = some cs9 → ∀ (H : Heap) (locs : List Loc) (ls : Array Slot), va_P (dC, dI) vwCl (cW cB cI cJ cZ cS cO b cs1) H → va_D A (cW cB cI cJ cZ cS cO b cs1) → va_S A s.heap H locs → lv_has ls 1 [(0, .ref (b + u0))] → W p l e (headSpec (wsOf yX9_deepen cX9_deepen 1 none) ({ frames := 1, cells := 0, slots := 0, locals := 60 * (1) } : Room)).room s m ([.ref (b + x0)] : List Value).toArray below meth c H locs 0 0 (MQ below (va_Qv (fun (_ : Unit) => True) (fun _ t_ => va_P (dC, dI) vwCl (cW cB cI cJ cZ cS cO b cs9) t_.heap ∧ va_D A (cW cB cI cJ cZ cS cO b cs9)) A) ([.ref (b + x0)] : List Value).toArray s 0 0 A) (F0 m 19 ls []) := by
    intro cs1 u0 h H locs ls hP hD hS hl
    unfold c_X9_deepen_b19 at h
    refine lv_aload_n hx hb dX9_deepen_19 rfl (lv_at hl 0 rfl) ?_
    refine lv_dup hx hb dX9_deepen_20 rfl ?_
    replace h := ob h; obtain ⟨v_1, hv_1, h⟩ := h
    refine fg_X9_275 hx hb hts hown hK hP hv_1 dX9_deepen_21 ?_
    refine lv_iconst (v := 1) hx hb dX9_deepen_24 (by decide) ?_
    refine lv_iadd hx hb dX9_deepen_25 ?_
    replace h := ob h; obtain ⟨cs_2, hv_2, h⟩ := h
    refine fp_X9_275 hx hb hts hown hK hP hD hS hv_2 dX9_deepen_26 (fun H locs hP hD hS => ?_)
    have e1 := Option.some.inj h
    rw [e1] at hP hD
    exact W.vret hx hb hr (fun t_ ht hW => ⟨⟨(), rfl, trivial, by rw [ht]; exact hP, hD⟩, hS.F ht⟩) hS.2.2 dX9_deepen_29
  have h := hf
  unfold c_X9_deepen at h
  refine lv_aload_n hx hb dX9_deepen_0 rfl (lv_at hl 0 rfl) ?_
  replace h := ob h; obtain ⟨v_3, hv_3, h⟩ := h
  refine fg_X9_275 hx hb hts hown hK hP hv_3 dX9_deepen_1 ?_
  refine lv_bipush (v := 12) hx hb dX9_deepen_4 (by decide) ?_
  refine lv_icmp_lt (tgt := 19) hx hb dX9_deepen_6 (by decide) (fun c_4 => ?_) (fun c_4 => ?_)
  · skip
    replace h := (if_pos c_4).symm.trans h
    exact B_19 cs x0 h _ _ _ hP hD hS (lv_sub hl [0] rfl)
  · skip
    replace h := (if_neg c_4).symm.trans h
    refine lv_aload_n hx hb dX9_deepen_9 rfl (lv_at hl 0 rfl) ?_
    refine lv_bipush (v := 7) hx hb dX9_deepen_10 (by decide) ?_
    refine lv_aload_n hx hb dX9_deepen_12 rfl (lv_at hl 0 rfl) ?_
    replace h := ob h; obtain ⟨w_6, hw_6, h⟩ := h
    replace h := ob h; obtain ⟨v_5, hv_5, h⟩ := h
    refine ccI (As := []) hx hb hml hts hown hK hP hD hS hA hZ (X := 10) (by decide) rfl (ckE_some hw_6) (sc_X9_here l dC dI cB cI cJ cZ cS cO b K V fz F cs x0 v_5 hv_5) (cw_X9_X9_here hts (fr := 0) (Nat.le_of_ble_eq_true rfl) (Nat.le_of_ble_eq_true rfl)) rfl hl.1 (Nat.le_of_ble_eq_true rfl) ⟨Nat.zero_le _, Nat.zero_le _⟩ dX9_deepen_13 (fun H locs hP hD hS => ?_)
    replace h := ob h; obtain ⟨w_8, hw_8, h⟩ := h
    replace h := ob h; obtain ⟨cs_7, hv_7, h⟩ := h
    refine ccV (As := [.int 7, .int v_5]) hx hb hml hts hown hK hP hD hS hA hZ (X := 10) (by decide) rfl (ckE_some hw_8) (sc_X9_refuse l dC dI cB cI cJ cZ cS cO b K V fz F cs x0 7 v_5 cs_7 hv_7) (cw_X9_X9_refuse hts (fr := 0) (Nat.le_of_ble_eq_true rfl) (Nat.le_of_ble_eq_true rfl)) rfl hl.1 (Nat.le_of_ble_eq_true rfl) ⟨Nat.zero_le _, Nat.zero_le _⟩ dX9_deepen_16 (fun H locs hP hD hS => ?_)
    exact B_19 cs_7 x0 h _ _ _ hP hD hS (lv_sub hl [0] rfl)
theorem dX9_noteAggregate_0 : decode cX9_noteAggregate 0 = .ok (.aload_n 0, 1) := by decide +kernel
theorem dX9_noteAggregate_1 : decode cX9_noteAggregate 1 = .ok (.getfield 26, 3) := by decide +kernel
theorem dX9_noteAggregate_4 : decode cX9_noteAggregate 4 = .ok (.iload_n 2, 1) := by decide +kernel
theorem dX9_noteAggregate_5 : decode cX9_noteAggregate 5 = .ok (.invokevirtual 228, 3) := by decide +kernel
theorem dX9_noteAggregate_8 : decode cX9_noteAggregate 8 = .ok (.ifCond .eq 15, 3) := by decide +kernel
theorem dX9_noteAggregate_11 : decode cX9_noteAggregate 11 = .ok (.aload_n 1, 1) := by decide +kernel
theorem dX9_noteAggregate_12 : decode cX9_noteAggregate 12 = .ok (.getfield 349, 3) := by decide +kernel
theorem dX9_noteAggregate_15 : decode cX9_noteAggregate 15 = .ok (.aload_n 1, 1) := by decide +kernel
theorem dX9_noteAggregate_16 : decode cX9_noteAggregate 16 = .ok (.getfield 356, 3) := by decide +kernel
theorem dX9_noteAggregate_19 : decode cX9_noteAggregate 19 = .ok (.arraylength, 1) := by decide +kernel
theorem dX9_noteAggregate_20 : decode cX9_noteAggregate 20 = .ok (.if_icmp .lt 4, 3) := by decide +kernel
theorem dX9_noteAggregate_23 : decode cX9_noteAggregate 23 = .ok (.return_, 1) := by decide +kernel
theorem dX9_noteAggregate_24 : decode cX9_noteAggregate 24 = .ok (.aload_n 1, 1) := by decide +kernel
theorem dX9_noteAggregate_25 : decode cX9_noteAggregate 25 = .ok (.getfield 356, 3) := by decide +kernel
theorem dX9_noteAggregate_28 : decode cX9_noteAggregate 28 = .ok (.aload_n 1, 1) := by decide +kernel
theorem dX9_noteAggregate_29 : decode cX9_noteAggregate 29 = .ok (.getfield 349, 3) := by decide +kernel
theorem dX9_noteAggregate_32 : decode cX9_noteAggregate 32 = .ok (.iload_n 2, 1) := by decide +kernel
theorem dX9_noteAggregate_33 : decode cX9_noteAggregate 33 = .ok (.iastore, 1) := by decide +kernel
theorem dX9_noteAggregate_34 : decode cX9_noteAggregate 34 = .ok (.aload_n 1, 1) := by decide +kernel
theorem dX9_noteAggregate_35 : decode cX9_noteAggregate 35 = .ok (.dup, 1) := by decide +kernel
theorem dX9_noteAggregate_36 : decode cX9_noteAggregate 36 = .ok (.getfield 349, 3) := by decide +kernel
theorem dX9_noteAggregate_39 : decode cX9_noteAggregate 39 = .ok (.iconst 1, 1) := by decide +kernel
theorem dX9_noteAggregate_40 : decode cX9_noteAggregate 40 = .ok (.iadd, 1) := by decide +kernel
theorem dX9_noteAggregate_41 : decode cX9_noteAggregate 41 = .ok (.putfield 349, 3) := by decide +kernel
theorem dX9_noteAggregate_44 : decode cX9_noteAggregate 44 = .ok (.aload_n 0, 1) := by decide +kernel
theorem dX9_noteAggregate_45 : decode cX9_noteAggregate 45 = .ok (.getfield 26, 3) := by decide +kernel
theorem dX9_noteAggregate_48 : decode cX9_noteAggregate 48 = .ok (.iload_n 3, 1) := by decide +kernel
theorem dX9_noteAggregate_49 : decode cX9_noteAggregate 49 = .ok (.invokevirtual 228, 3) := by decide +kernel
theorem dX9_noteAggregate_52 : decode cX9_noteAggregate 52 = .ok (.ifCond .eq 18, 3) := by decide +kernel
theorem dX9_noteAggregate_55 : decode cX9_noteAggregate 55 = .ok (.iload_n 3, 1) := by decide +kernel
theorem dX9_noteAggregate_56 : decode cX9_noteAggregate 56 = .ok (.iload_n 2, 1) := by decide +kernel
theorem dX9_noteAggregate_57 : decode cX9_noteAggregate 57 = .ok (.if_icmp .ge 13, 3) := by decide +kernel
theorem dX9_noteAggregate_60 : decode cX9_noteAggregate 60 = .ok (.aload_n 0, 1) := by decide +kernel
theorem dX9_noteAggregate_61 : decode cX9_noteAggregate 61 = .ok (.getfield 26, 3) := by decide +kernel
theorem dX9_noteAggregate_64 : decode cX9_noteAggregate 64 = .ok (.getfield 359, 3) := by decide +kernel
theorem dX9_noteAggregate_67 : decode cX9_noteAggregate 67 = .ok (.iload_n 3, 1) := by decide +kernel
theorem dX9_noteAggregate_68 : decode cX9_noteAggregate 68 = .ok (.iload_n 2, 1) := by decide +kernel
theorem dX9_noteAggregate_69 : decode cX9_noteAggregate 69 = .ok (.iastore, 1) := by decide +kernel
theorem dX9_noteAggregate_70 : decode cX9_noteAggregate 70 = .ok (.return_, 1) := by decide +kernel
def c_X9_noteAggregate_b23 (F : Nat) (cs1 : CS) : Option CS := some cs1
def c_X9_noteAggregate_b70 (F : Nat) (cs1 : CS) : Option CS := some cs1
def c_X9_noteAggregate (F : Nat) (cs : CS) (x0 : Nat) (x1 : Nat) (x2 : Int32) (x3 : Int32) : Option CS := Option.bind (gR cs 10 322 x0) fun v_1 => Option.bind (v_1) fun i_3 => Option.bind (ckE cs 2 i_3) fun _ => Option.bind (c_X1_has F cs i_3 x2) fun v_2 => if v_2 = 0 then (c_X9_noteAggregate_b23 F cs) else (Option.bind (gI cs 6 203 x1) fun v_6 => Option.bind (gA cs 6 202 x1) fun v_7 => Option.bind (lnA cs 202 x1 v_7) fun v_8 => if v_6 < v_8 then (Option.bind (gA cs 6 202 x1) fun v_10 => Option.bind (gI cs 6 203 x1) fun v_11 => Option.bind (wA cs 202 x1 v_10 v_11 x2) fun cs_12 => Option.bind (gI cs_12 6 203 x1) fun v_13 => Option.bind (pI cs_12 6 203 x1 (v_13 + 1)) fun cs_14 => Option.bind (gR cs_14 10 322 x0) fun v_15 => Option.bind (v_15) fun i_17 => Option.bind (ckE cs_14 2 i_17) fun _ => Option.bind (c_X1_has F cs_14 i_17 x3) fun v_16 => if v_16 = 0 then (c_X9_noteAggregate_b70 F cs_14) else (if x2 ≤ x3 then (c_X9_noteAggregate_b70 F cs_14) else (Option.bind (gR cs_14 10 322 x0) fun v_21 => Option.bind (v_21) fun i_22 => Option.bind (gA cs_14 2 71 i_22) fun v_23 => Option.bind (wA cs_14 71 i_22 v_23 x3 x2) fun cs_24 => c_X9_noteAggregate_b70 F cs_24))) else (c_X9_noteAggregate_b23 F cs))
theorem cw_X9_X9_noteAggregate {R : Room} {s : State} {args : Array Value} {y0 : MethodName} {c0 : ByteArray} {n0 : Nat} {r0 : Option FieldType} (hts : ∀ w ∈ wsOf y0 c0 n0 r0, w.before args s = true) {fr : Nat} (h1 : fr + 1 ≤ R.frames) (h2 : 8 + (4 + 11) + 60 * fr ≤ R.locals) : CallW R s args RX9 RX9 352 yX9_noteAggregate cX9_noteAggregate 4 none (wsOf yX9_noteAggregate cX9_noteAggregate 4 none) ({ frames := fr, cells := 0, slots := 0, locals := 60 * fr } : Room) 0 0 3 := cwV 3 hts (gd_all (in_V kw_1021 kw_1023 kw_36 kw_193 kc_X9_noteAggregate)) rfl rfl rfl (by decide +kernel) ⟨h1, h2⟩
set_option maxHeartbeats 4000000 in
set_option maxRecDepth 100000 in
theorem sc_X9_noteAggregate (l : Launch) (dC : Nat → ClassId) (dI : Nat → Nat → Nat) (cB cI cJ cZ cS cO : ClassId) (b : Nat) (K V : Nat → Nat) (fz : Value) (F : Nat) (cs : CS) (x0 : Nat) (x1 : Nat) (x2 : Int32) (x3 : Int32) (cs9 : CS) (hf : c_X9_noteAggregate F cs x0 x1 x2 x3 = some cs9) : ocV l dC dI cB cI cJ cZ cS cO b K V fz yX9_noteAggregate (wsOf yX9_noteAggregate cX9_noteAggregate 4 none) (1) [.ref (b + x0), .ref (b + x1), .int x2, .int x3] cs cs9 := by
  intro sz
  refine Met.ofW (cc := cX9_noteAggregate) (maxL := 4) (ret := none) (by decide) rfl ?_
  intro p e s m args below meth c s₁ B hml hv
  obtain ⟨rfl, hsz, hP, hK, hD0, hZ⟩ := hv
  have hx := B.exec
  have hb := B.bytes
  have hr := B.returns
  have hts := atoms_spec (ws := (wsOf yX9_noteAggregate cX9_noteAggregate 4 none)) B.pre
  have hown : s.vm.findClass RX9 = some m.cls := findClass_of_methodNamed B.named
  have hlocks := B.notSynchronized
  subst hsz
  have hD := hD0.self (sz := s.heap.size)
  generalize hAe : va_A (cW cB cI cJ cZ cS cO b cs) s.heap.size = A at hD hZ ⊢
  have hA : ∀ q : Nat, s.heap.size ≤ q → A q := fun q h => by rw [← hAe]; exact Or.inr h
  have hS : va_S A s.heap s.heap [] := va_S.rf
  have hl := lv_entry ([.ref (b + x0), .ref (b + x1), .int x2, .int x3]) (n := 4) (Nat.le_of_ble_eq_true rfl)
  rw [lg_entry_eq]
  generalize (lg_sl ([.ref (b + x0), .ref (b + x1), .int x2, .int x3]) ++ List.replicate (4 - (lg_sl ([.ref (b + x0), .ref (b + x1), .int x2, .int x3])).length) Slot.unset).toArray = ls at hl ⊢
  have hl : lv_has ls 4 [(0, .ref (b + x0)), (1, .ref (b + x1)), (2, .int x2), (3, .int x3)] := hl
  have B_23 : ∀ (cs1 : CS) , c_X9_noteAggregate_b23 F cs1 = some cs9 → ∀ (H : Heap) (locs : List Loc) (ls : Array Slot), va_P (dC, dI) vwCl (cW cB cI cJ cZ cS cO b cs1) H → va_D A (cW cB cI cJ cZ cS cO b cs1) → va_S A s.heap H locs → lv_has ls 4 [] → W p l e (headSpec (wsOf yX9_noteAggregate cX9_noteAggregate 4 none) ({ frames := 1, cells := 0, slots := 0, locals := 60 * (1) } : Room)).room s m ([.ref (b + x0), .ref (b + x1), .int x2, .int x3] : List Value).toArray below meth c H locs 0 0 (MQ below (va_Qv (fun (_ : Unit) => True) (fun _ t_ => va_P (dC, dI) vwCl (cW cB cI cJ cZ cS cO b cs9) t_.heap ∧ va_D A (cW cB cI cJ cZ cS cO b cs9)) A) ([.ref (b + x0), .ref (b + x1), .int x2, .int x3] : List Value).toArray s 0 0 A) (F0 m 23 ls []) := by
    intro cs1  h H locs ls hP hD hS hl
    unfold c_X9_noteAggregate_b23 at h
    have e1 := Option.some.inj h
    rw [e1] at hP hD
    exact W.vret hx hb hr (fun t_ ht hW => ⟨⟨(), rfl, trivial, by rw [ht]; exact hP, hD⟩, hS.F ht⟩) hS.2.2 dX9_noteAggregate_23
  have B_70 : ∀ (cs1 : CS) , c_X9_noteAggregate_b70 F cs1 = some cs9 → ∀ (H : Heap) (locs : List Loc) (ls : Array Slot), va_P (dC, dI) vwCl (cW cB cI cJ cZ cS cO b cs1) H → va_D A (cW cB cI cJ cZ cS cO b cs1) → va_S A s.heap H locs → lv_has ls 4 [] → W p l e (headSpec (wsOf yX9_noteAggregate cX9_noteAggregate 4 none) ({ frames := 1, cells := 0, slots := 0, locals := 60 * (1) } : Room)).room s m ([.ref (b + x0), .ref (b + x1), .int x2, .int x3] : List Value).toArray below meth c H locs 0 0 (MQ below (va_Qv (fun (_ : Unit) => True) (fun _ t_ => va_P (dC, dI) vwCl (cW cB cI cJ cZ cS cO b cs9) t_.heap ∧ va_D A (cW cB cI cJ cZ cS cO b cs9)) A) ([.ref (b + x0), .ref (b + x1), .int x2, .int x3] : List Value).toArray s 0 0 A) (F0 m 70 ls []) := by
    intro cs1  h H locs ls hP hD hS hl
    unfold c_X9_noteAggregate_b70 at h
    have e1 := Option.some.inj h
    rw [e1] at hP hD
    exact W.vret hx hb hr (fun t_ ht hW => ⟨⟨(), rfl, trivial, by rw [ht]; exact hP, hD⟩, hS.F ht⟩) hS.2.2 dX9_noteAggregate_70
  have h := hf
  unfold c_X9_noteAggregate at h
  refine lv_aload_n hx hb dX9_noteAggregate_0 rfl (lv_at hl 0 rfl) ?_
  replace h := ob h; obtain ⟨v_1, hv_1, h⟩ := h
  refine fg_X9_26 hx hb hts hown hK hP hv_1 dX9_noteAggregate_1 ?_
  refine lv_iload_n hx hb dX9_noteAggregate_4 rfl (lv_at hl 2 rfl) ?_
  replace h := ob h; obtain ⟨i_3, hi_3, h⟩ := h
  subst hi_3
  replace h := ob h; obtain ⟨w_4, hw_4, h⟩ := h
  replace h := ob h; obtain ⟨v_2, hv_2, h⟩ := h
  refine ccI (As := [.int x2]) hx hb hml hts hown hK hP hD hS hA hZ (X := 2) (by decide) rfl (ckE_some hw_4) (sc_X1_has l dC dI cB cI cJ cZ cS cO b K V fz F cs i_3 x2 v_2 hv_2) (cw_X9_X1_has hts (fr := 0) (Nat.le_of_ble_eq_true rfl) (Nat.le_of_ble_eq_true rfl)) rfl hl.1 (Nat.le_of_ble_eq_true rfl) ⟨Nat.zero_le _, Nat.zero_le _⟩ dX9_noteAggregate_5 (fun H locs hP hD hS => ?_)
  refine lv_if_eq (tgt := 23) hx hb dX9_noteAggregate_8 (by decide) (fun c_5 => ?_) (fun c_5 => ?_)
  · skip
    replace h := (if_pos c_5).symm.trans h
    exact B_23 cs h _ _ _ hP hD hS (lv_sub hl [] rfl)
  · skip
    replace h := (if_neg c_5).symm.trans h
    refine lv_aload_n hx hb dX9_noteAggregate_11 rfl (lv_at hl 1 rfl) ?_
    replace h := ob h; obtain ⟨v_6, hv_6, h⟩ := h
    refine fg_X9_349 hx hb hts hown hK hP hv_6 dX9_noteAggregate_12 ?_
    refine lv_aload_n hx hb dX9_noteAggregate_15 rfl (lv_at hl 1 rfl) ?_
    replace h := ob h; obtain ⟨v_7, hv_7, h⟩ := h
    refine fg_X9_356 hx hb hts hown hK hP hv_7 dX9_noteAggregate_16 ?_
    replace h := ob h; obtain ⟨v_8, hv_8, h⟩ := h
    refine alen0 hx hb hK hP rfl hv_8 dX9_noteAggregate_19 ?_
    refine lv_icmp_lt (tgt := 24) hx hb dX9_noteAggregate_20 (by decide) (fun c_9 => ?_) (fun c_9 => ?_)
    · skip
      replace h := (if_pos c_9).symm.trans h
      refine lv_aload_n hx hb dX9_noteAggregate_24 rfl (lv_at hl 1 rfl) ?_
      replace h := ob h; obtain ⟨v_10, hv_10, h⟩ := h
      refine fg_X9_356 hx hb hts hown hK hP hv_10 dX9_noteAggregate_25 ?_
      refine lv_aload_n hx hb dX9_noteAggregate_28 rfl (lv_at hl 1 rfl) ?_
      replace h := ob h; obtain ⟨v_11, hv_11, h⟩ := h
      refine fg_X9_349 hx hb hts hown hK hP hv_11 dX9_noteAggregate_29 ?_
      refine lv_iload_n hx hb dX9_noteAggregate_32 rfl (lv_at hl 2 rfl) ?_
      replace h := ob h; obtain ⟨cs_12, hv_12, h⟩ := h
      refine ast0 hx hb hK hP hD hS rfl hv_12 dX9_noteAggregate_33 (fun H locs hP hD hS => ?_)
      refine lv_aload_n hx hb dX9_noteAggregate_34 rfl (lv_at hl 1 rfl) ?_
      refine lv_dup hx hb dX9_noteAggregate_35 rfl ?_
      replace h := ob h; obtain ⟨v_13, hv_13, h⟩ := h
      refine fg_X9_349 hx hb hts hown hK hP hv_13 dX9_noteAggregate_36 ?_
      refine lv_iconst (v := 1) hx hb dX9_noteAggregate_39 (by decide) ?_
      refine lv_iadd hx hb dX9_noteAggregate_40 ?_
      replace h := ob h; obtain ⟨cs_14, hv_14, h⟩ := h
      refine fp_X9_349 hx hb hts hown hK hP hD hS hv_14 dX9_noteAggregate_41 (fun H locs hP hD hS => ?_)
      refine lv_aload_n hx hb dX9_noteAggregate_44 rfl (lv_at hl 0 rfl) ?_
      replace h := ob h; obtain ⟨v_15, hv_15, h⟩ := h
      refine fg_X9_26 hx hb hts hown hK hP hv_15 dX9_noteAggregate_45 ?_
      refine lv_iload_n hx hb dX9_noteAggregate_48 rfl (lv_at hl 3 rfl) ?_
      replace h := ob h; obtain ⟨i_17, hi_17, h⟩ := h
      subst hi_17
      replace h := ob h; obtain ⟨w_18, hw_18, h⟩ := h
      replace h := ob h; obtain ⟨v_16, hv_16, h⟩ := h
      refine ccI (As := [.int x3]) hx hb hml hts hown hK hP hD hS hA hZ (X := 2) (by decide) rfl (ckE_some hw_18) (sc_X1_has l dC dI cB cI cJ cZ cS cO b K V fz F cs_14 i_17 x3 v_16 hv_16) (cw_X9_X1_has hts (fr := 0) (Nat.le_of_ble_eq_true rfl) (Nat.le_of_ble_eq_true rfl)) rfl hl.1 (Nat.le_of_ble_eq_true rfl) ⟨Nat.zero_le _, Nat.zero_le _⟩ dX9_noteAggregate_49 (fun H locs hP hD hS => ?_)
      refine lv_if_eq (tgt := 70) hx hb dX9_noteAggregate_52 (by decide) (fun c_19 => ?_) (fun c_19 => ?_)
      · skip
        replace h := (if_pos c_19).symm.trans h
        exact B_70 cs_14 h _ _ _ hP hD hS (lv_sub hl [] rfl)
      · skip
        replace h := (if_neg c_19).symm.trans h
        refine lv_iload_n hx hb dX9_noteAggregate_55 rfl (lv_at hl 3 rfl) ?_
        refine lv_iload_n hx hb dX9_noteAggregate_56 rfl (lv_at hl 2 rfl) ?_
        refine lv_icmp_ge (tgt := 70) hx hb dX9_noteAggregate_57 (by decide) (fun c_20 => ?_) (fun c_20 => ?_)
        · skip
          replace h := (if_pos c_20).symm.trans h
          exact B_70 cs_14 h _ _ _ hP hD hS (lv_sub hl [] rfl)
        · skip
          replace h := (if_neg c_20).symm.trans h
          refine lv_aload_n hx hb dX9_noteAggregate_60 rfl (lv_at hl 0 rfl) ?_
          replace h := ob h; obtain ⟨v_21, hv_21, h⟩ := h
          refine fg_X9_26 hx hb hts hown hK hP hv_21 dX9_noteAggregate_61 ?_
          replace h := ob h; obtain ⟨i_22, hi_22, h⟩ := h
          subst hi_22
          replace h := ob h; obtain ⟨v_23, hv_23, h⟩ := h
          refine fg_X9_359 hx hb hts hown hK hP hv_23 dX9_noteAggregate_64 ?_
          refine lv_iload_n hx hb dX9_noteAggregate_67 rfl (lv_at hl 3 rfl) ?_
          refine lv_iload_n hx hb dX9_noteAggregate_68 rfl (lv_at hl 2 rfl) ?_
          replace h := ob h; obtain ⟨cs_24, hv_24, h⟩ := h
          refine ast0 hx hb hK hP hD hS rfl hv_24 dX9_noteAggregate_69 (fun H locs hP hD hS => ?_)
          exact B_70 cs_24 h _ _ _ hP hD hS (lv_sub hl [] rfl)
    · skip
      replace h := (if_neg c_9).symm.trans h
      exact B_23 cs h _ _ _ hP hD hS (lv_sub hl [] rfl)
theorem dX9_addSource_0 : decode cX9_addSource 0 = .ok (.aload_n 0, 1) := by decide +kernel
theorem dX9_addSource_1 : decode cX9_addSource 1 = .ok (.getfield 258, 3) := by decide +kernel
theorem dX9_addSource_4 : decode cX9_addSource 4 = .ok (.aload_n 0, 1) := by decide +kernel
theorem dX9_addSource_5 : decode cX9_addSource 5 = .ok (.getfield 261, 3) := by decide +kernel
theorem dX9_addSource_8 : decode cX9_addSource 8 = .ok (.arraylength, 1) := by decide +kernel
theorem dX9_addSource_9 : decode cX9_addSource 9 = .ok (.if_icmp .ge 23, 3) := by decide +kernel
theorem dX9_addSource_12 : decode cX9_addSource 12 = .ok (.aload_n 0, 1) := by decide +kernel
theorem dX9_addSource_13 : decode cX9_addSource 13 = .ok (.getfield 261, 3) := by decide +kernel
theorem dX9_addSource_16 : decode cX9_addSource 16 = .ok (.aload_n 0, 1) := by decide +kernel
theorem dX9_addSource_17 : decode cX9_addSource 17 = .ok (.getfield 258, 3) := by decide +kernel
theorem dX9_addSource_20 : decode cX9_addSource 20 = .ok (.aload_n 1, 1) := by decide +kernel
theorem dX9_addSource_21 : decode cX9_addSource 21 = .ok (.aastore, 1) := by decide +kernel
theorem dX9_addSource_22 : decode cX9_addSource 22 = .ok (.aload_n 0, 1) := by decide +kernel
theorem dX9_addSource_23 : decode cX9_addSource 23 = .ok (.dup, 1) := by decide +kernel
theorem dX9_addSource_24 : decode cX9_addSource 24 = .ok (.getfield 258, 3) := by decide +kernel
theorem dX9_addSource_27 : decode cX9_addSource 27 = .ok (.iconst 1, 1) := by decide +kernel
theorem dX9_addSource_28 : decode cX9_addSource 28 = .ok (.iadd, 1) := by decide +kernel
theorem dX9_addSource_29 : decode cX9_addSource 29 = .ok (.putfield 258, 3) := by decide +kernel
theorem dX9_addSource_32 : decode cX9_addSource 32 = .ok (.return_, 1) := by decide +kernel
def c_X9_addSource_b32 (F : Nat) (cs1 : CS) : Option CS := some cs1
def c_X9_addSource (F : Nat) (cs : CS) (x0 : Nat) (x1 : Nat) : Option CS := Option.bind (gI cs 6 196 x0) fun v_1 => Option.bind (gA cs 6 195 x0) fun v_2 => Option.bind (lnA cs 195 x0 v_2) fun v_3 => if v_3 ≤ v_1 then (c_X9_addSource_b32 F cs) else (Option.bind (gA cs 6 195 x0) fun v_5 => Option.bind (gI cs 6 196 x0) fun v_6 => Option.bind (ckE cs 7 x1) fun _ => Option.bind (wQ cs 195 x0 v_5 v_6 (some x1)) fun cs_7 => Option.bind (gI cs_7 6 196 x0) fun v_8 => Option.bind (pI cs_7 6 196 x0 (v_8 + 1)) fun cs_9 => c_X9_addSource_b32 F cs_9)
theorem cw_X9_X9_addSource {R : Room} {s : State} {args : Array Value} {y0 : MethodName} {c0 : ByteArray} {n0 : Nat} {r0 : Option FieldType} (hts : ∀ w ∈ wsOf y0 c0 n0 r0, w.before args s = true) {fr : Nat} (h1 : fr + 1 ≤ R.frames) (h2 : 8 + (2 + 11) + 60 * fr ≤ R.locals) : CallB R s args RX9 245 yX9_addSource cX9_addSource 2 none (wsOf yX9_addSource cX9_addSource 2 none) ({ frames := fr, cells := 0, slots := 0, locals := 60 * fr } : Room) 0 0 2 ∧ (Cond.static yX9_addSource).before args s = true := ⟨callB_of 2 hts (gd_all (in_I kc_X9_addSource)) rfl rfl rfl (hts _ (List.mem_cons_of_mem _ kw_193)) (hts _ (List.mem_cons_of_mem _ kw_1124)) (by decide +kernel) ⟨h1, h2⟩, hts _ (List.mem_cons_of_mem _ kw_1125)⟩
set_option maxHeartbeats 4000000 in
set_option maxRecDepth 100000 in
theorem sc_X9_addSource (l : Launch) (dC : Nat → ClassId) (dI : Nat → Nat → Nat) (cB cI cJ cZ cS cO : ClassId) (b : Nat) (K V : Nat → Nat) (fz : Value) (F : Nat) (cs : CS) (x0 : Nat) (x1 : Nat) (cs9 : CS) (hf : c_X9_addSource F cs x0 x1 = some cs9) : ocV l dC dI cB cI cJ cZ cS cO b K V fz yX9_addSource (wsOf yX9_addSource cX9_addSource 2 none) (0) [.ref (b + x0), .ref (b + x1)] cs cs9 := by
  intro sz
  refine Met.ofW (cc := cX9_addSource) (maxL := 2) (ret := none) (by decide) rfl ?_
  intro p e s m args below meth c s₁ B hml hv
  obtain ⟨rfl, hsz, hP, hK, hD0, hZ⟩ := hv
  have hx := B.exec
  have hb := B.bytes
  have hr := B.returns
  have hts := atoms_spec (ws := (wsOf yX9_addSource cX9_addSource 2 none)) B.pre
  have hown : s.vm.findClass RX9 = some m.cls := findClass_of_methodNamed B.named
  have hlocks := B.notSynchronized
  subst hsz
  have hD := hD0.self (sz := s.heap.size)
  generalize hAe : va_A (cW cB cI cJ cZ cS cO b cs) s.heap.size = A at hD hZ ⊢
  have hA : ∀ q : Nat, s.heap.size ≤ q → A q := fun q h => by rw [← hAe]; exact Or.inr h
  have hS : va_S A s.heap s.heap [] := va_S.rf
  have hl := lv_entry ([.ref (b + x0), .ref (b + x1)]) (n := 2) (Nat.le_of_ble_eq_true rfl)
  rw [lg_entry_eq]
  generalize (lg_sl ([.ref (b + x0), .ref (b + x1)]) ++ List.replicate (2 - (lg_sl ([.ref (b + x0), .ref (b + x1)])).length) Slot.unset).toArray = ls at hl ⊢
  have hl : lv_has ls 2 [(0, .ref (b + x0)), (1, .ref (b + x1))] := hl
  have B_32 : ∀ (cs1 : CS) , c_X9_addSource_b32 F cs1 = some cs9 → ∀ (H : Heap) (locs : List Loc) (ls : Array Slot), va_P (dC, dI) vwCl (cW cB cI cJ cZ cS cO b cs1) H → va_D A (cW cB cI cJ cZ cS cO b cs1) → va_S A s.heap H locs → lv_has ls 2 [] → W p l e (headSpec (wsOf yX9_addSource cX9_addSource 2 none) ({ frames := 0, cells := 0, slots := 0, locals := 60 * (0) } : Room)).room s m ([.ref (b + x0), .ref (b + x1)] : List Value).toArray below meth c H locs 0 0 (MQ below (va_Qv (fun (_ : Unit) => True) (fun _ t_ => va_P (dC, dI) vwCl (cW cB cI cJ cZ cS cO b cs9) t_.heap ∧ va_D A (cW cB cI cJ cZ cS cO b cs9)) A) ([.ref (b + x0), .ref (b + x1)] : List Value).toArray s 0 0 A) (F0 m 32 ls []) := by
    intro cs1  h H locs ls hP hD hS hl
    unfold c_X9_addSource_b32 at h
    have e1 := Option.some.inj h
    rw [e1] at hP hD
    exact W.vret hx hb hr (fun t_ ht hW => ⟨⟨(), rfl, trivial, by rw [ht]; exact hP, hD⟩, hS.F ht⟩) hS.2.2 dX9_addSource_32
  have h := hf
  unfold c_X9_addSource at h
  refine lv_aload_n hx hb dX9_addSource_0 rfl (lv_at hl 0 rfl) ?_
  replace h := ob h; obtain ⟨v_1, hv_1, h⟩ := h
  refine fg_X9_258 hx hb hts hown hK hP hv_1 dX9_addSource_1 ?_
  refine lv_aload_n hx hb dX9_addSource_4 rfl (lv_at hl 0 rfl) ?_
  replace h := ob h; obtain ⟨v_2, hv_2, h⟩ := h
  refine fg_X9_261 hx hb hts hown hK hP hv_2 dX9_addSource_5 ?_
  replace h := ob h; obtain ⟨v_3, hv_3, h⟩ := h
  refine alen3 hx hb hK hP rfl hv_3 dX9_addSource_8 ?_
  refine lv_icmp_ge (tgt := 32) hx hb dX9_addSource_9 (by decide) (fun c_4 => ?_) (fun c_4 => ?_)
  · skip
    replace h := (if_pos c_4).symm.trans h
    exact B_32 cs h _ _ _ hP hD hS (lv_sub hl [] rfl)
  · skip
    replace h := (if_neg c_4).symm.trans h
    refine lv_aload_n hx hb dX9_addSource_12 rfl (lv_at hl 0 rfl) ?_
    replace h := ob h; obtain ⟨v_5, hv_5, h⟩ := h
    refine fg_X9_261 hx hb hts hown hK hP hv_5 dX9_addSource_13 ?_
    refine lv_aload_n hx hb dX9_addSource_16 rfl (lv_at hl 0 rfl) ?_
    replace h := ob h; obtain ⟨v_6, hv_6, h⟩ := h
    refine fg_X9_258 hx hb hts hown hK hP hv_6 dX9_addSource_17 ?_
    refine lv_aload_n hx hb dX9_addSource_20 rfl (lv_at hl 1 rfl) ?_
    replace h := ob h; obtain ⟨w_7, hw_7, h⟩ := h
    replace h := ob h; obtain ⟨cs_7, hv_7, h⟩ := h
    refine astQ hx hb hK hP hD hS rfl (ckE_some hw_7) hv_7 dX9_addSource_21 (fun H locs hP hD hS => ?_)
    refine lv_aload_n hx hb dX9_addSource_22 rfl (lv_at hl 0 rfl) ?_
    refine lv_dup hx hb dX9_addSource_23 rfl ?_
    replace h := ob h; obtain ⟨v_8, hv_8, h⟩ := h
    refine fg_X9_258 hx hb hts hown hK hP hv_8 dX9_addSource_24 ?_
    refine lv_iconst (v := 1) hx hb dX9_addSource_27 (by decide) ?_
    refine lv_iadd hx hb dX9_addSource_28 ?_
    replace h := ob h; obtain ⟨cs_9, hv_9, h⟩ := h
    refine fp_X9_258 hx hb hts hown hK hP hD hS hv_9 dX9_addSource_29 (fun H locs hP hD hS => ?_)
    exact B_32 cs_9 h _ _ _ hP hD hS (lv_sub hl [] rfl)
theorem dX9_readLeaf_0 : decode cX9_readLeaf 0 = .ok (.aload_n 0, 1) := by decide +kernel
theorem dX9_readLeaf_1 : decode cX9_readLeaf 1 = .ok (.invokevirtual 125, 3) := by decide +kernel
theorem dX9_readLeaf_4 : decode cX9_readLeaf 4 = .ok (.ldc2_w 292, 3) := by decide +kernel
theorem dX9_readLeaf_7 : decode cX9_readLeaf 7 = .ok (.lsub, 1) := by decide +kernel
theorem dX9_readLeaf_8 : decode cX9_readLeaf 8 = .ok (.lstore_n 2, 1) := by decide +kernel
theorem dX9_readLeaf_9 : decode cX9_readLeaf 9 = .ok (.aload_n 0, 1) := by decide +kernel
theorem dX9_readLeaf_10 : decode cX9_readLeaf 10 = .ok (.invokevirtual 114, 3) := by decide +kernel
theorem dX9_readLeaf_13 : decode cX9_readLeaf 13 = .ok (.bipush 39, 2) := by decide +kernel
theorem dX9_readLeaf_15 : decode cX9_readLeaf 15 = .ok (.if_icmp .ne 17, 3) := by decide +kernel
theorem dX9_readLeaf_18 : decode cX9_readLeaf 18 = .ok (.lload_n 2, 1) := by decide +kernel
theorem dX9_readLeaf_19 : decode cX9_readLeaf 19 = .ok (.lconst 0, 1) := by decide +kernel
theorem dX9_readLeaf_20 : decode cX9_readLeaf 20 = .ok (.lcmp, 1) := by decide +kernel
theorem dX9_readLeaf_21 : decode cX9_readLeaf 21 = .ok (.ifCond .lt 11, 3) := by decide +kernel
theorem dX9_readLeaf_24 : decode cX9_readLeaf 24 = .ok (.lload_n 2, 1) := by decide +kernel
theorem dX9_readLeaf_25 : decode cX9_readLeaf 25 = .ok (.ldc2_w 294, 3) := by decide +kernel
theorem dX9_readLeaf_28 : decode cX9_readLeaf 28 = .ok (.lcmp, 1) := by decide +kernel
theorem dX9_readLeaf_29 : decode cX9_readLeaf 29 = .ok (.ifCond .le 15, 3) := by decide +kernel
theorem dX9_readLeaf_32 : decode cX9_readLeaf 32 = .ok (.aload_n 0, 1) := by decide +kernel
theorem dX9_readLeaf_33 : decode cX9_readLeaf 33 = .ok (.iconst 1, 1) := by decide +kernel
theorem dX9_readLeaf_34 : decode cX9_readLeaf 34 = .ok (.aload_n 0, 1) := by decide +kernel
theorem dX9_readLeaf_35 : decode cX9_readLeaf 35 = .ok (.invokevirtual 118, 3) := by decide +kernel
theorem dX9_readLeaf_38 : decode cX9_readLeaf 38 = .ok (.invokevirtual 121, 3) := by decide +kernel
theorem dX9_readLeaf_41 : decode cX9_readLeaf 41 = .ok (.goto 64, 3) := by decide +kernel
theorem dX9_readLeaf_44 : decode cX9_readLeaf 44 = .ok (.aload_n 0, 1) := by decide +kernel
theorem dX9_readLeaf_45 : decode cX9_readLeaf 45 = .ok (.getfield 76, 3) := by decide +kernel
theorem dX9_readLeaf_48 : decode cX9_readLeaf 48 = .ok (.aload_n 0, 1) := by decide +kernel
theorem dX9_readLeaf_49 : decode cX9_readLeaf 49 = .ok (.getfield 32, 3) := by decide +kernel
theorem dX9_readLeaf_52 : decode cX9_readLeaf 52 = .ok (.arraylength, 1) := by decide +kernel
theorem dX9_readLeaf_53 : decode cX9_readLeaf 53 = .ok (.if_icmp .lt 16, 3) := by decide +kernel
theorem dX9_readLeaf_56 : decode cX9_readLeaf 56 = .ok (.aload_n 0, 1) := by decide +kernel
theorem dX9_readLeaf_57 : decode cX9_readLeaf 57 = .ok (.bipush 7, 2) := by decide +kernel
theorem dX9_readLeaf_59 : decode cX9_readLeaf 59 = .ok (.aload_n 0, 1) := by decide +kernel
theorem dX9_readLeaf_60 : decode cX9_readLeaf 60 = .ok (.invokevirtual 118, 3) := by decide +kernel
theorem dX9_readLeaf_63 : decode cX9_readLeaf 63 = .ok (.invokevirtual 121, 3) := by decide +kernel
theorem dX9_readLeaf_66 : decode cX9_readLeaf 66 = .ok (.goto 39, 3) := by decide +kernel
theorem dX9_readLeaf_69 : decode cX9_readLeaf 69 = .ok (.aload_n 1, 1) := by decide +kernel
theorem dX9_readLeaf_70 : decode cX9_readLeaf 70 = .ok (.lload_n 2, 1) := by decide +kernel
theorem dX9_readLeaf_71 : decode cX9_readLeaf 71 = .ok (.l2i, 1) := by decide +kernel
theorem dX9_readLeaf_72 : decode cX9_readLeaf 72 = .ok (.putfield 80, 3) := by decide +kernel
theorem dX9_readLeaf_75 : decode cX9_readLeaf 75 = .ok (.aload_n 0, 1) := by decide +kernel
theorem dX9_readLeaf_76 : decode cX9_readLeaf 76 = .ok (.getfield 32, 3) := by decide +kernel
theorem dX9_readLeaf_79 : decode cX9_readLeaf 79 = .ok (.aload_n 0, 1) := by decide +kernel
theorem dX9_readLeaf_80 : decode cX9_readLeaf 80 = .ok (.getfield 76, 3) := by decide +kernel
theorem dX9_readLeaf_83 : decode cX9_readLeaf 83 = .ok (.aload_n 1, 1) := by decide +kernel
theorem dX9_readLeaf_84 : decode cX9_readLeaf 84 = .ok (.aastore, 1) := by decide +kernel
theorem dX9_readLeaf_85 : decode cX9_readLeaf 85 = .ok (.aload_n 0, 1) := by decide +kernel
theorem dX9_readLeaf_86 : decode cX9_readLeaf 86 = .ok (.dup, 1) := by decide +kernel
theorem dX9_readLeaf_87 : decode cX9_readLeaf 87 = .ok (.getfield 76, 3) := by decide +kernel
theorem dX9_readLeaf_90 : decode cX9_readLeaf 90 = .ok (.iconst 1, 1) := by decide +kernel
theorem dX9_readLeaf_91 : decode cX9_readLeaf 91 = .ok (.iadd, 1) := by decide +kernel
theorem dX9_readLeaf_92 : decode cX9_readLeaf 92 = .ok (.putfield 76, 3) := by decide +kernel
theorem dX9_readLeaf_95 : decode cX9_readLeaf 95 = .ok (.aload_n 0, 1) := by decide +kernel
theorem dX9_readLeaf_96 : decode cX9_readLeaf 96 = .ok (.dup, 1) := by decide +kernel
theorem dX9_readLeaf_97 : decode cX9_readLeaf 97 = .ok (.getfield 99, 3) := by decide +kernel
theorem dX9_readLeaf_100 : decode cX9_readLeaf 100 = .ok (.iconst 1, 1) := by decide +kernel
theorem dX9_readLeaf_101 : decode cX9_readLeaf 101 = .ok (.iadd, 1) := by decide +kernel
theorem dX9_readLeaf_102 : decode cX9_readLeaf 102 = .ok (.putfield 99, 3) := by decide +kernel
theorem dX9_readLeaf_105 : decode cX9_readLeaf 105 = .ok (.return_, 1) := by decide +kernel
def c_X9_readLeaf_b105 (F : Nat) (cs1 : CS) : Option CS := some cs1
def c_X9_readLeaf_b32 (F : Nat) (cs1 : CS) (u0 : Nat) : Option CS := Option.bind (ckE cs1 10 u0) fun _ => Option.bind (c_X9_here F cs1 u0) fun v_1 => Option.bind (ckE cs1 10 u0) fun _ => Option.bind (c_X9_refuse F cs1 u0 1 v_1) fun cs_3 => c_X9_readLeaf_b105 F cs_3
def c_X9_readLeaf (F : Nat) (cs : CS) (x0 : Nat) (x1 : Nat) : Option CS := Option.bind (ckE cs 10 x0) fun _ => Option.bind (c_X9_number F cs x0) fun v_5 => Option.bind (ckE cs 10 x0) fun _ => Option.bind (c_X9_kind F cs x0) fun v_7 => if v_7 = 39 then (if (v_5 - (730)) < 0 then (c_X9_readLeaf_b32 F cs x0) else (if (v_5 - (730)) ≤ (9) then (Option.bind (gI cs 10 325 x0) fun v_12 => Option.bind (gA cs 10 326 x0) fun v_13 => Option.bind (lnA cs 326 x0 v_13) fun v_14 => if v_12 < v_14 then (Option.bind (pI cs 7 224 x1 ((v_5 - (730)).toInt32)) fun cs_16 => Option.bind (gA cs_16 10 326 x0) fun v_17 => Option.bind (gI cs_16 10 325 x0) fun v_18 => Option.bind (ckE cs_16 7 x1) fun _ => Option.bind (wQ cs_16 326 x0 v_17 v_18 (some x1)) fun cs_19 => Option.bind (gI cs_19 10 325 x0) fun v_20 => Option.bind (pI cs_19 10 325 x0 (v_20 + 1)) fun cs_21 => Option.bind (gI cs_21 10 328 x0) fun v_22 => Option.bind (pI cs_21 10 328 x0 (v_22 + 1)) fun cs_23 => c_X9_readLeaf_b105 F cs_23) else (Option.bind (ckE cs 10 x0) fun _ => Option.bind (c_X9_here F cs x0) fun v_24 => Option.bind (ckE cs 10 x0) fun _ => Option.bind (c_X9_refuse F cs x0 7 v_24) fun cs_26 => c_X9_readLeaf_b105 F cs_26)) else (c_X9_readLeaf_b32 F cs x0))) else (c_X9_readLeaf_b32 F cs x0)
theorem cw_X9_X9_readLeaf {R : Room} {s : State} {args : Array Value} {y0 : MethodName} {c0 : ByteArray} {n0 : Nat} {r0 : Option FieldType} (hts : ∀ w ∈ wsOf y0 c0 n0 r0, w.before args s = true) {fr : Nat} (h1 : fr + 1 ≤ R.frames) (h2 : 8 + (4 + 11) + 60 * fr ≤ R.locals) : CallW R s args RX9 RX9 278 yX9_readLeaf cX9_readLeaf 4 none (wsOf yX9_readLeaf cX9_readLeaf 4 none) ({ frames := fr, cells := 0, slots := 0, locals := 60 * fr } : Room) 0 0 1 := cwV 1 hts (gd_all (in_V kw_1113 kw_1115 kw_41 kw_193 kc_X9_readLeaf)) rfl rfl rfl (by decide +kernel) ⟨h1, h2⟩
set_option maxHeartbeats 4000000 in
set_option maxRecDepth 100000 in
theorem sc_X9_readLeaf (l : Launch) (dC : Nat → ClassId) (dI : Nat → Nat → Nat) (cB cI cJ cZ cS cO : ClassId) (b : Nat) (K V : Nat → Nat) (fz : Value) (F : Nat) (cs : CS) (x0 : Nat) (x1 : Nat) (cs9 : CS) (hf : c_X9_readLeaf F cs x0 x1 = some cs9) : ocV l dC dI cB cI cJ cZ cS cO b K V fz yX9_readLeaf (wsOf yX9_readLeaf cX9_readLeaf 4 none) (1) [.ref (b + x0), .ref (b + x1)] cs cs9 := by
  intro sz
  refine Met.ofW (cc := cX9_readLeaf) (maxL := 4) (ret := none) (by decide) rfl ?_
  intro p e s m args below meth c s₁ B hml hv
  obtain ⟨rfl, hsz, hP, hK, hD0, hZ⟩ := hv
  have hx := B.exec
  have hb := B.bytes
  have hr := B.returns
  have hts := atoms_spec (ws := (wsOf yX9_readLeaf cX9_readLeaf 4 none)) B.pre
  have hown : s.vm.findClass RX9 = some m.cls := findClass_of_methodNamed B.named
  have hlocks := B.notSynchronized
  subst hsz
  have hD := hD0.self (sz := s.heap.size)
  generalize hAe : va_A (cW cB cI cJ cZ cS cO b cs) s.heap.size = A at hD hZ ⊢
  have hA : ∀ q : Nat, s.heap.size ≤ q → A q := fun q h => by rw [← hAe]; exact Or.inr h
  have hS : va_S A s.heap s.heap [] := va_S.rf
  have hl := lv_entry ([.ref (b + x0), .ref (b + x1)]) (n := 4) (Nat.le_of_ble_eq_true rfl)
  rw [lg_entry_eq]
  generalize (lg_sl ([.ref (b + x0), .ref (b + x1)]) ++ List.replicate (4 - (lg_sl ([.ref (b + x0), .ref (b + x1)])).length) Slot.unset).toArray = ls at hl ⊢
  have hl : lv_has ls 4 [(0, .ref (b + x0)), (1, .ref (b + x1))] := hl
  have B_105 : ∀ (cs1 : CS) , c_X9_readLeaf_b105 F cs1 = some cs9 → ∀ (H : Heap) (locs : List Loc) (ls : Array Slot), va_P (dC, dI) vwCl (cW cB cI cJ cZ cS cO b cs1) H → va_D A (cW cB cI cJ cZ cS cO b cs1) → va_S A s.heap H locs → lv_has ls 4 [] → W p l e (headSpec (wsOf yX9_readLeaf cX9_readLeaf 4 none) ({ frames := 1, cells := 0, slots := 0, locals := 60 * (1) } : Room)).room s m ([.ref (b + x0), .ref (b + x1)] : List Value).toArray below meth c H locs 0 0 (MQ below (va_Qv (fun (_ : Unit) => True) (fun _ t_ => va_P (dC, dI) vwCl (cW cB cI cJ cZ cS cO b cs9) t_.heap ∧ va_D A (cW cB cI cJ cZ cS cO b cs9)) A) ([.ref (b + x0), .ref (b + x1)] : List Value).toArray s 0 0 A) (F0 m 105 ls []) := by
    intro cs1  h H locs ls hP hD hS hl
    unfold c_X9_readLeaf_b105 at h
    have e1 := Option.some.inj h
    rw [e1] at hP hD
    exact W.vret hx hb hr (fun t_ ht hW => ⟨⟨(), rfl, trivial, by rw [ht]; exact hP, hD⟩, hS.F ht⟩) hS.2.2 dX9_readLeaf_105
  have B_32 : ∀ (cs1 : CS) (u0 : Nat), c_X9_readLeaf_b32 F cs1 u0 = some cs9 → ∀ (H : Heap) (locs : List Loc) (ls : Array Slot), va_P (dC, dI) vwCl (cW cB cI cJ cZ cS cO b cs1) H → va_D A (cW cB cI cJ cZ cS cO b cs1) → va_S A s.heap H locs → lv_has ls 4 [(0, .ref (b + u0))] → W p l e (headSpec (wsOf yX9_readLeaf cX9_readLeaf 4 none) ({ frames := 1, cells := 0, slots := 0, locals := 60 * (1) } : Room)).room s m ([.ref (b + x0), .ref (b + x1)] : List Value).toArray below meth c H locs 0 0 (MQ below (va_Qv (fun (_ : Unit) => True) (fun _ t_ => va_P (dC, dI) vwCl (cW cB cI cJ cZ cS cO b cs9) t_.heap ∧ va_D A (cW cB cI cJ cZ cS cO b cs9)) A) ([.ref (b + x0), .ref (b + x1)] : List Value).toArray s 0 0 A) (F0 m 32 ls []) := by
    intro cs1 u0 h H locs ls hP hD hS hl
    unfold c_X9_readLeaf_b32 at h
    refine lv_aload_n hx hb dX9_readLeaf_32 rfl (lv_at hl 0 rfl) ?_
    refine lv_iconst (v := 1) hx hb dX9_readLeaf_33 (by decide) ?_
    refine lv_aload_n hx hb dX9_readLeaf_34 rfl (lv_at hl 0 rfl) ?_
    replace h := ob h; obtain ⟨w_2, hw_2, h⟩ := h
    replace h := ob h; obtain ⟨v_1, hv_1, h⟩ := h
    refine ccI (As := []) hx hb hml hts hown hK hP hD hS hA hZ (X := 10) (by decide) rfl (ckE_some hw_2) (sc_X9_here l dC dI cB cI cJ cZ cS cO b K V fz F cs1 u0 v_1 hv_1) (cw_X9_X9_here hts (fr := 0) (Nat.le_of_ble_eq_true rfl) (Nat.le_of_ble_eq_true rfl)) rfl hl.1 (Nat.le_of_ble_eq_true rfl) ⟨Nat.zero_le _, Nat.zero_le _⟩ dX9_readLeaf_35 (fun H locs hP hD hS => ?_)
    replace h := ob h; obtain ⟨w_4, hw_4, h⟩ := h
    replace h := ob h; obtain ⟨cs_3, hv_3, h⟩ := h
    refine ccV (As := [.int 1, .int v_1]) hx hb hml hts hown hK hP hD hS hA hZ (X := 10) (by decide) rfl (ckE_some hw_4) (sc_X9_refuse l dC dI cB cI cJ cZ cS cO b K V fz F cs1 u0 1 v_1 cs_3 hv_3) (cw_X9_X9_refuse hts (fr := 0) (Nat.le_of_ble_eq_true rfl) (Nat.le_of_ble_eq_true rfl)) rfl hl.1 (Nat.le_of_ble_eq_true rfl) ⟨Nat.zero_le _, Nat.zero_le _⟩ dX9_readLeaf_38 (fun H locs hP hD hS => ?_)
    refine lv_goto (tgt := 105) hx hb dX9_readLeaf_41 (by decide) ?_
    exact B_105 cs_3 h _ _ _ hP hD hS (lv_sub hl [] rfl)
  have h := hf
  unfold c_X9_readLeaf at h
  refine lv_aload_n hx hb dX9_readLeaf_0 rfl (lv_at hl 0 rfl) ?_
  replace h := ob h; obtain ⟨w_6, hw_6, h⟩ := h
  replace h := ob h; obtain ⟨v_5, hv_5, h⟩ := h
  refine ccL (As := []) hx hb hml hts hown hK hP hD hS hA hZ (X := 10) (by decide) rfl (ckE_some hw_6) (sc_X9_number l dC dI cB cI cJ cZ cS cO b K V fz F cs x0 v_5 hv_5) (cw_X9_X9_number hts (fr := 0) (Nat.le_of_ble_eq_true rfl) (Nat.le_of_ble_eq_true rfl)) rfl hl.1 (Nat.le_of_ble_eq_true rfl) ⟨Nat.zero_le _, Nat.zero_le _⟩ dX9_readLeaf_1 (fun H locs hP hD hS => ?_)
  refine lv_ldc2 hx hb hown (hts _ (List.mem_cons_of_mem _ kw_1117)) dX9_readLeaf_4 ?_
  refine lv_lsub hx hb dX9_readLeaf_7 ?_
  refine lv_lstore_n (lv' := [(2, .long (v_5 - (730))), (0, .ref (b + x0)), (1, .ref (b + x1))]) hx hb dX9_readLeaf_8 rfl hl (by decide) rfl (fun ls hl => ?_)
  refine lv_aload_n hx hb dX9_readLeaf_9 rfl (lv_at hl 1 rfl) ?_
  replace h := ob h; obtain ⟨w_8, hw_8, h⟩ := h
  replace h := ob h; obtain ⟨v_7, hv_7, h⟩ := h
  refine ccI (As := []) hx hb hml hts hown hK hP hD hS hA hZ (X := 10) (by decide) rfl (ckE_some hw_8) (sc_X9_kind l dC dI cB cI cJ cZ cS cO b K V fz F cs x0 v_7 hv_7) (cw_X9_X9_kind hts (fr := 0) (Nat.le_of_ble_eq_true rfl) (Nat.le_of_ble_eq_true rfl)) rfl hl.1 (Nat.le_of_ble_eq_true rfl) ⟨Nat.zero_le _, Nat.zero_le _⟩ dX9_readLeaf_10 (fun H locs hP hD hS => ?_)
  refine lv_bipush (v := 39) hx hb dX9_readLeaf_13 (by decide) ?_
  refine lv_icmp_ne (tgt := 32) hx hb dX9_readLeaf_15 (by decide) (fun c_9 => ?_) (fun c_9 => ?_)
  · skip
    replace h := (if_neg c_9).symm.trans h
    exact B_32 cs x0 h _ _ _ hP hD hS (lv_sub hl [1] rfl)
  · skip
    replace h := (if_pos c_9).symm.trans h
    refine lv_lload_n hx hb dX9_readLeaf_18 rfl (lv_at hl 0 rfl) ?_
    refine lv_lconst (v := 0) hx hb dX9_readLeaf_19 (by decide) ?_
    refine W.lcmp hx hb dX9_readLeaf_20 ?_
    refine lv_if_lt (tgt := 32) hx hb dX9_readLeaf_21 (by decide) (fun c_10 => ?_) (fun c_10 => ?_)
    · skip
      have c_10 : (v_5 - (730)) < 0 := (lg_cmp_lt _ _).mp c_10
      replace h := (if_pos c_10).symm.trans h
      exact B_32 cs x0 h _ _ _ hP hD hS (lv_sub hl [1] rfl)
    · skip
      have c_10 : ¬ ((v_5 - (730)) < 0) := fun h9 => c_10 ((lg_cmp_lt _ _).mpr h9)
      replace h := (if_neg c_10).symm.trans h
      refine lv_lload_n hx hb dX9_readLeaf_24 rfl (lv_at hl 0 rfl) ?_
      refine lv_ldc2 hx hb hown (hts _ (List.mem_cons_of_mem _ kw_1118)) dX9_readLeaf_25 ?_
      refine W.lcmp hx hb dX9_readLeaf_28 ?_
      refine lv_if_le (tgt := 44) hx hb dX9_readLeaf_29 (by decide) (fun c_11 => ?_) (fun c_11 => ?_)
      · skip
        have c_11 : (v_5 - (730)) ≤ (9) := (lg_cmp_le _ _).mp c_11
        replace h := (if_pos c_11).symm.trans h
        refine lv_aload_n hx hb dX9_readLeaf_44 rfl (lv_at hl 1 rfl) ?_
        replace h := ob h; obtain ⟨v_12, hv_12, h⟩ := h
        refine fg_X9_76 hx hb hts hown hK hP hv_12 dX9_readLeaf_45 ?_
        refine lv_aload_n hx hb dX9_readLeaf_48 rfl (lv_at hl 1 rfl) ?_
        replace h := ob h; obtain ⟨v_13, hv_13, h⟩ := h
        refine fg_X9_32 hx hb hts hown hK hP hv_13 dX9_readLeaf_49 ?_
        replace h := ob h; obtain ⟨v_14, hv_14, h⟩ := h
        refine alen3 hx hb hK hP rfl hv_14 dX9_readLeaf_52 ?_
        refine lv_icmp_lt (tgt := 69) hx hb dX9_readLeaf_53 (by decide) (fun c_15 => ?_) (fun c_15 => ?_)
        · skip
          replace h := (if_pos c_15).symm.trans h
          refine lv_aload_n hx hb dX9_readLeaf_69 rfl (lv_at hl 2 rfl) ?_
          refine lv_lload_n hx hb dX9_readLeaf_70 rfl (lv_at hl 0 rfl) ?_
          refine lv_l2i hx hb dX9_readLeaf_71 rfl ?_
          replace h := ob h; obtain ⟨cs_16, hv_16, h⟩ := h
          refine fp_X9_80 hx hb hts hown hK hP hD hS hv_16 dX9_readLeaf_72 (fun H locs hP hD hS => ?_)
          refine lv_aload_n hx hb dX9_readLeaf_75 rfl (lv_at hl 1 rfl) ?_
          replace h := ob h; obtain ⟨v_17, hv_17, h⟩ := h
          refine fg_X9_32 hx hb hts hown hK hP hv_17 dX9_readLeaf_76 ?_
          refine lv_aload_n hx hb dX9_readLeaf_79 rfl (lv_at hl 1 rfl) ?_
          replace h := ob h; obtain ⟨v_18, hv_18, h⟩ := h
          refine fg_X9_76 hx hb hts hown hK hP hv_18 dX9_readLeaf_80 ?_
          refine lv_aload_n hx hb dX9_readLeaf_83 rfl (lv_at hl 2 rfl) ?_
          replace h := ob h; obtain ⟨w_19, hw_19, h⟩ := h
          replace h := ob h; obtain ⟨cs_19, hv_19, h⟩ := h
          refine astQ hx hb hK hP hD hS rfl (ckE_some hw_19) hv_19 dX9_readLeaf_84 (fun H locs hP hD hS => ?_)
          refine lv_aload_n hx hb dX9_readLeaf_85 rfl (lv_at hl 1 rfl) ?_
          refine lv_dup hx hb dX9_readLeaf_86 rfl ?_
          replace h := ob h; obtain ⟨v_20, hv_20, h⟩ := h
          refine fg_X9_76 hx hb hts hown hK hP hv_20 dX9_readLeaf_87 ?_
          refine lv_iconst (v := 1) hx hb dX9_readLeaf_90 (by decide) ?_
          refine lv_iadd hx hb dX9_readLeaf_91 ?_
          replace h := ob h; obtain ⟨cs_21, hv_21, h⟩ := h
          refine fp_X9_76 hx hb hts hown hK hP hD hS hv_21 dX9_readLeaf_92 (fun H locs hP hD hS => ?_)
          refine lv_aload_n hx hb dX9_readLeaf_95 rfl (lv_at hl 1 rfl) ?_
          refine lv_dup hx hb dX9_readLeaf_96 rfl ?_
          replace h := ob h; obtain ⟨v_22, hv_22, h⟩ := h
          refine fg_X9_99 hx hb hts hown hK hP hv_22 dX9_readLeaf_97 ?_
          refine lv_iconst (v := 1) hx hb dX9_readLeaf_100 (by decide) ?_
          refine lv_iadd hx hb dX9_readLeaf_101 ?_
          replace h := ob h; obtain ⟨cs_23, hv_23, h⟩ := h
          refine fp_X9_99 hx hb hts hown hK hP hD hS hv_23 dX9_readLeaf_102 (fun H locs hP hD hS => ?_)
          exact B_105 cs_23 h _ _ _ hP hD hS (lv_sub hl [] rfl)
        · skip
          replace h := (if_neg c_15).symm.trans h
          refine lv_aload_n hx hb dX9_readLeaf_56 rfl (lv_at hl 1 rfl) ?_
          refine lv_bipush (v := 7) hx hb dX9_readLeaf_57 (by decide) ?_
          refine lv_aload_n hx hb dX9_readLeaf_59 rfl (lv_at hl 1 rfl) ?_
          replace h := ob h; obtain ⟨w_25, hw_25, h⟩ := h
          replace h := ob h; obtain ⟨v_24, hv_24, h⟩ := h
          refine ccI (As := []) hx hb hml hts hown hK hP hD hS hA hZ (X := 10) (by decide) rfl (ckE_some hw_25) (sc_X9_here l dC dI cB cI cJ cZ cS cO b K V fz F cs x0 v_24 hv_24) (cw_X9_X9_here hts (fr := 0) (Nat.le_of_ble_eq_true rfl) (Nat.le_of_ble_eq_true rfl)) rfl hl.1 (Nat.le_of_ble_eq_true rfl) ⟨Nat.zero_le _, Nat.zero_le _⟩ dX9_readLeaf_60 (fun H locs hP hD hS => ?_)
          replace h := ob h; obtain ⟨w_27, hw_27, h⟩ := h
          replace h := ob h; obtain ⟨cs_26, hv_26, h⟩ := h
          refine ccV (As := [.int 7, .int v_24]) hx hb hml hts hown hK hP hD hS hA hZ (X := 10) (by decide) rfl (ckE_some hw_27) (sc_X9_refuse l dC dI cB cI cJ cZ cS cO b K V fz F cs x0 7 v_24 cs_26 hv_26) (cw_X9_X9_refuse hts (fr := 0) (Nat.le_of_ble_eq_true rfl) (Nat.le_of_ble_eq_true rfl)) rfl hl.1 (Nat.le_of_ble_eq_true rfl) ⟨Nat.zero_le _, Nat.zero_le _⟩ dX9_readLeaf_63 (fun H locs hP hD hS => ?_)
          refine lv_goto (tgt := 105) hx hb dX9_readLeaf_66 (by decide) ?_
          exact B_105 cs_26 h _ _ _ hP hD hS (lv_sub hl [] rfl)
      · skip
        have c_11 : ¬ ((v_5 - (730)) ≤ (9)) := fun h9 => c_11 ((lg_cmp_le _ _).mpr h9)
        replace h := (if_neg c_11).symm.trans h
        exact B_32 cs x0 h _ _ _ hP hD hS (lv_sub hl [1] rfl)
