/-! the class, mirrored -/
theorem dJx4a65c_size_8abf5_0 : decode cJx4a65c_size_8abf5 0 = .ok (.aload_n 0, 1) := by decide +kernel
theorem dJx4a65c_size_8abf5_1 : decode cJx4a65c_size_8abf5 1 = .ok (.getfield 48, 3) := by decide +kernel
theorem dJx4a65c_size_8abf5_4 : decode cJx4a65c_size_8abf5 4 = .ok (.ireturn, 1) := by decide +kernel
set_option maxRecDepth 20000 in
theorem kc_Jx4a65c_size_8abf5 : Cond.code yJx4a65c_size_8abf5 cJx4a65c_size_8abf5 1 (some .int) ∈ wsG := kGm (tab_5 (List.mem_of_getElem? (i := 37) rfl)) rfl
def c_Jx4a65c_size_8abf5 (F : Nat) (cs : CS) (x0 : Nat) : Option Int32 := Option.bind (gI cs 0 2 x0) fun v_1 => some v_1
theorem cw_X0_Jx4a65c_size_8abf5 {R : Room} {s : State} {args : Array Value} {y0 : MethodName} {c0 : ByteArray} {n0 : Nat} {r0 : Option FieldType} (hts : ∀ w ∈ wsOf y0 c0 n0 r0, w.before args s = true) {fr : Nat} (h1 : fr + 1 ≤ R.frames) (h2 : 8 + (1 + 11) + 60 * fr ≤ R.locals) : CallW R s args RX0 RJx4a65c 36 yJx4a65c_size_8abf5 cJx4a65c_size_8abf5 1 (some .int) (wsOf yJx4a65c_size_8abf5 cJx4a65c_size_8abf5 1 (some .int)) ({ frames := fr, cells := 0, slots := 0, locals := 60 * fr } : Room) 0 0 0 := cwV 0 hts (gd_all (in_V kw_1174 kw_1175 kw_1176 kw_199 kc_Jx4a65c_size_8abf5)) rfl rfl rfl (by decide +kernel) ⟨h1, h2⟩
theorem cw_X4_Jx4a65c_size_8abf5 {R : Room} {s : State} {args : Array Value} {y0 : MethodName} {c0 : ByteArray} {n0 : Nat} {r0 : Option FieldType} (hts : ∀ w ∈ wsOf y0 c0 n0 r0, w.before args s = true) {fr : Nat} (h1 : fr + 1 ≤ R.frames) (h2 : 8 + (1 + 11) + 60 * fr ≤ R.locals) : CallW R s args RX4 RJx4a65c 39 yJx4a65c_size_8abf5 cJx4a65c_size_8abf5 1 (some .int) (wsOf yJx4a65c_size_8abf5 cJx4a65c_size_8abf5 1 (some .int)) ({ frames := fr, cells := 0, slots := 0, locals := 60 * fr } : Room) 0 0 0 := cwV 0 hts (gd_all (in_V kw_1368 kw_1175 kw_1176 kw_199 kc_Jx4a65c_size_8abf5)) rfl rfl rfl (by decide +kernel) ⟨h1, h2⟩
set_option maxHeartbeats 4000000 in
set_option maxRecDepth 100000 in
theorem sc_Jx4a65c_size_8abf5 (l : Launch) (dC : Nat → ClassId) (dI : Nat → Nat → Nat) (cB cI cJ cZ cS cO : ClassId) (b : Nat) (K V : Nat → Nat) (fz : Value) (F : Nat) (cs : CS) (x0 : Nat) (r9 : Int32) (hf : c_Jx4a65c_size_8abf5 F cs x0 = some r9) : ocI l dC dI cB cI cJ cZ cS cO b K V fz yJx4a65c_size_8abf5 (wsOf yJx4a65c_size_8abf5 cJx4a65c_size_8abf5 1 (some .int)) (0) [.ref (b + x0)] cs cs r9 := by
  intro sz
  refine va_MetF (cc := cJx4a65c_size_8abf5) (maxL := 1) (ret := (some .int)) (by decide +kernel) rfl ?_
  intro p e s m args below meth c s₁ B hml hv
  obtain ⟨rfl, hsz, hP, hK, hD0, hZ⟩ := hv
  have hx := B.exec
  have hb := B.bytes
  have hr := B.returns
  have hts := atoms_spec (ws := (wsOf yJx4a65c_size_8abf5 cJx4a65c_size_8abf5 1 (some .int))) B.pre
  have hown : s.vm.findClass RJx4a65c = some m.cls := findClass_of_methodNamed B.named
  have hlocks := B.notSynchronized
  subst hsz
  have hD := hD0.self (sz := s.heap.size)
  generalize hAe : va_A (cW cB cI cJ cZ cS cO b cs) s.heap.size = A at hD hZ ⊢
  have hA : ∀ q : Nat, s.heap.size ≤ q → A q := fun q h => by rw [← hAe]; exact Or.inr h
  have hS : va_S A s.heap s.heap [] := va_S.rf
  have hl := lv_entry ([.ref (b + x0)]) (n := 1) (Nat.le_of_ble_eq_true rfl)
  rw [lg_entry_eq]
  generalize (lg_sl ([.ref (b + x0)]) ++ List.replicate (1 - (lg_sl ([.ref (b + x0)])).length) Slot.unset).toArray = ls at hl ⊢
  have hl : lv_has ls 1 [(0, .ref (b + x0))] := hl
  have h := hf
  unfold c_Jx4a65c_size_8abf5 at h
  refine lv_aload_n hx hb dJx4a65c_size_8abf5_0 rfl (lv_at hl 0 rfl) ?_
  replace h := ob h; obtain ⟨v_1, hv_1, h⟩ := h
  refine fg_Jx4a65c_48 hx hb hts hown hK hP hv_1 dJx4a65c_size_8abf5_1 ?_
  have e2 := Option.some.inj h
  exact W.iret (v := v_1) hx hb hr (fun t_ ht hW => ⟨⟨v_1, (), rfl, e2, by rw [ht]; exact hP, hD⟩, hS.F ht⟩) hS.2.2 dJx4a65c_size_8abf5_4
def c_J3_checkIndex_8e157_b9 (F : Nat) (cs : CS) (u0 : Int32) (u1 : Int32) : Option Int32 := none
def c_J3_checkIndex_8e157 (F : Nat) (cs : CS) (x0 : Int32) (x1 : Int32) : Option Int32 := if x0 < 0 then (c_J3_checkIndex_8e157_b9 F cs x0 x1) else (if x0 < x1 then (some x0) else (c_J3_checkIndex_8e157_b9 F cs x0 x1))
theorem cw_J15_J3_checkIndex_8e157 {R : Room} {s : State} {args : Array Value} {y0 : MethodName} {c0 : ByteArray} {n0 : Nat} {r0 : Option FieldType} (hts : ∀ w ∈ wsOf y0 c0 n0 r0, w.before args s = true) {fr : Nat} (h1 : fr + 1 ≤ R.frames) (h2 : 8 + (3 + 11) + 60 * fr ≤ R.locals) : CallB R s args RJ15 105 yJ3_checkIndex_8e157 cJ3_checkIndex_8e157 3 (some .int) (wsOf yJ3_checkIndex_8e157 cJ3_checkIndex_8e157 3 (some .int)) ({ frames := fr, cells := 0, slots := 0, locals := 60 * fr } : Room) 0 0 3 ∧ (Cond.static yJ3_checkIndex_8e157).before args s = true := ⟨callB_of 3 hts (gd_all (in_I kc_J3_checkIndex_8e157)) rfl rfl rfl (hts _ (List.mem_cons_of_mem _ kw_186)) (hts _ (List.mem_cons_of_mem _ kw_1189)) (by decide +kernel) ⟨h1, h2⟩, hts _ (List.mem_cons_of_mem _ kw_290)⟩
set_option maxHeartbeats 4000000 in
set_option maxRecDepth 100000 in
theorem sc_J3_checkIndex_8e157 (l : Launch) (dC : Nat → ClassId) (dI : Nat → Nat → Nat) (cB cI cJ cZ cS cO : ClassId) (b : Nat) (K V : Nat → Nat) (fz : Value) (F : Nat) (cs : CS) (x0 : Int32) (x1 : Int32) (r9 : Int32) (hf : c_J3_checkIndex_8e157 F cs x0 x1 = some r9) : ocI l dC dI cB cI cJ cZ cS cO b K V fz yJ3_checkIndex_8e157 (wsOf yJ3_checkIndex_8e157 cJ3_checkIndex_8e157 3 (some .int)) (0) [.int x0, .int x1, rv b none] cs cs r9 := by
  intro sz
  refine va_MetF (cc := cJ3_checkIndex_8e157) (maxL := 3) (ret := (some .int)) (by decide +kernel) rfl ?_
  intro p e s m args below meth c s₁ B hml hv
  obtain ⟨rfl, hsz, hP, hK, hD0, hZ⟩ := hv
  have hx := B.exec
  have hb := B.bytes
  have hr := B.returns
  have hts := atoms_spec (ws := (wsOf yJ3_checkIndex_8e157 cJ3_checkIndex_8e157 3 (some .int))) B.pre
  have hown : s.vm.findClass RJ3 = some m.cls := findClass_of_methodNamed B.named
  have hlocks := B.notSynchronized
  subst hsz
  have hD := hD0.self (sz := s.heap.size)
  generalize hAe : va_A (cW cB cI cJ cZ cS cO b cs) s.heap.size = A at hD hZ ⊢
  have hA : ∀ q : Nat, s.heap.size ≤ q → A q := fun q h => by rw [← hAe]; exact Or.inr h
  have hS : va_S A s.heap s.heap [] := va_S.rf
  have hl := lv_entry ([.int x0, .int x1, rv b none]) (n := 3) (Nat.le_of_ble_eq_true rfl)
  rw [lg_entry_eq]
  generalize (lg_sl ([.int x0, .int x1, rv b none]) ++ List.replicate (3 - (lg_sl ([.int x0, .int x1, rv b none])).length) Slot.unset).toArray = ls at hl ⊢
  have hl : lv_has ls 3 [(0, .int x0), (1, .int x1), (2, rv b none)] := hl
  have B_9 : ∀ (u0 : Int32) (u1 : Int32), c_J3_checkIndex_8e157_b9 F cs u0 u1 = some r9 → ∀ (H : Heap) (locs : List Loc) (ls : Array Slot), va_P (dC, dI) vwCl (cW cB cI cJ cZ cS cO b cs) H → va_D A (cW cB cI cJ cZ cS cO b cs) → va_S A s.heap H locs → lv_has ls 3 [(0, .int u0), (1, .int u1), (2, rv b none)] → W p l e (headSpec (wsOf yJ3_checkIndex_8e157 cJ3_checkIndex_8e157 3 (some .int)) ({ frames := 0, cells := 0, slots := 0, locals := 60 * (0) } : Room)).room s m ([.int x0, .int x1, rv b none] : List Value).toArray below meth c H locs 0 0 (MQ below (va_Qi (fun (x : Int32) (_ : Unit) => x = r9) (fun _ t_ => va_P (dC, dI) vwCl (cW cB cI cJ cZ cS cO b cs) t_.heap ∧ va_D A (cW cB cI cJ cZ cS cO b cs)) A) ([.int x0, .int x1, rv b none] : List Value).toArray s 0 0 A) (F0 m 9 ls []) := by
    intro u0 u1 h H locs ls hP hD hS hl
    unfold c_J3_checkIndex_8e157_b9 at h
    refine lv_aload_nO hx hb dJ3_checkIndex_8e157_9 rfl (lv_at hl 2 rfl) ?_
    refine lv_iload_n hx hb dJ3_checkIndex_8e157_10 rfl (lv_at hl 0 rfl) ?_
    refine lv_iload_n hx hb dJ3_checkIndex_8e157_11 rfl (lv_at hl 1 rfl) ?_
    cases h
  have h := hf
  unfold c_J3_checkIndex_8e157 at h
  refine lv_iload_n hx hb dJ3_checkIndex_8e157_0 rfl (lv_at hl 0 rfl) ?_
  refine lv_if_lt (tgt := 9) hx hb dJ3_checkIndex_8e157_1 (by decide) (fun c_1 => ?_) (fun c_1 => ?_)
  · skip
    replace h := (if_pos c_1).symm.trans h
    exact B_9 x0 x1 h _ _ _ hP hD hS (lv_sub hl [0, 1, 2] rfl)
  · skip
    replace h := (if_neg c_1).symm.trans h
    refine lv_iload_n hx hb dJ3_checkIndex_8e157_4 rfl (lv_at hl 0 rfl) ?_
    refine lv_iload_n hx hb dJ3_checkIndex_8e157_5 rfl (lv_at hl 1 rfl) ?_
    refine lv_icmp_lt (tgt := 16) hx hb dJ3_checkIndex_8e157_6 (by decide) (fun c_2 => ?_) (fun c_2 => ?_)
    · skip
      replace h := (if_pos c_2).symm.trans h
      refine lv_iload_n hx hb dJ3_checkIndex_8e157_16 rfl (lv_at hl 0 rfl) ?_
      have e2 := Option.some.inj h
      exact W.iret (v := x0) hx hb hr (fun t_ ht hW => ⟨⟨x0, (), rfl, e2, by rw [ht]; exact hP, hD⟩, hS.F ht⟩) hS.2.2 dJ3_checkIndex_8e157_17
    · skip
      replace h := (if_neg c_2).symm.trans h
      exact B_9 x0 x1 h _ _ _ hP hD hS (lv_sub hl [0, 1, 2] rfl)
theorem dJ15_checkIndex_7cf53_0 : decode cJ15_checkIndex_7cf53 0 = .ok (.iload_n 0, 1) := by decide +kernel
theorem dJ15_checkIndex_7cf53_1 : decode cJ15_checkIndex_7cf53 1 = .ok (.iload_n 1, 1) := by decide +kernel
theorem dJ15_checkIndex_7cf53_2 : decode cJ15_checkIndex_7cf53 2 = .ok (.aconst_null, 1) := by decide +kernel
theorem dJ15_checkIndex_7cf53_3 : decode cJ15_checkIndex_7cf53 3 = .ok (.invokestatic 105, 3) := by decide +kernel
theorem dJ15_checkIndex_7cf53_6 : decode cJ15_checkIndex_7cf53 6 = .ok (.ireturn, 1) := by decide +kernel
set_option maxRecDepth 20000 in
theorem kc_J15_checkIndex_7cf53 : Cond.code yJ15_checkIndex_7cf53 cJ15_checkIndex_7cf53 2 (some .int) ∈ wsG := kGm (tab_5 (List.mem_of_getElem? (i := 48) rfl)) rfl
def c_J15_checkIndex_7cf53 (F : Nat) (cs : CS) (x0 : Int32) (x1 : Int32) : Option Int32 := Option.bind (c_J3_checkIndex_8e157 F cs x0 x1 ) fun v_1 => some v_1
theorem cw_Jx4a65c_J15_checkIndex_7cf53 {R : Room} {s : State} {args : Array Value} {y0 : MethodName} {c0 : ByteArray} {n0 : Nat} {r0 : Option FieldType} (hts : ∀ w ∈ wsOf y0 c0 n0 r0, w.before args s = true) {fr : Nat} (h1 : fr + 1 ≤ R.frames) (h2 : 8 + (2 + 11) + 60 * fr ≤ R.locals) : CallB R s args RJx4a65c 118 yJ15_checkIndex_7cf53 cJ15_checkIndex_7cf53 2 (some .int) (wsOf yJ15_checkIndex_7cf53 cJ15_checkIndex_7cf53 2 (some .int)) ({ frames := fr, cells := 0, slots := 0, locals := 60 * fr } : Room) 0 0 2 ∧ (Cond.static yJ15_checkIndex_7cf53).before args s = true := ⟨callB_of 2 hts (gd_all (in_I kc_J15_checkIndex_7cf53)) rfl rfl rfl (hts _ (List.mem_cons_of_mem _ kw_205)) (hts _ (List.mem_cons_of_mem _ kw_1186)) (by decide +kernel) ⟨h1, h2⟩, hts _ (List.mem_cons_of_mem _ kw_1187)⟩
set_option maxHeartbeats 4000000 in
set_option maxRecDepth 100000 in
theorem sc_J15_checkIndex_7cf53 (l : Launch) (dC : Nat → ClassId) (dI : Nat → Nat → Nat) (cB cI cJ cZ cS cO : ClassId) (b : Nat) (K V : Nat → Nat) (fz : Value) (F : Nat) (cs : CS) (x0 : Int32) (x1 : Int32) (r9 : Int32) (hf : c_J15_checkIndex_7cf53 F cs x0 x1 = some r9) : ocI l dC dI cB cI cJ cZ cS cO b K V fz yJ15_checkIndex_7cf53 (wsOf yJ15_checkIndex_7cf53 cJ15_checkIndex_7cf53 2 (some .int)) (1) [.int x0, .int x1] cs cs r9 := by
  intro sz
  refine va_MetF (cc := cJ15_checkIndex_7cf53) (maxL := 2) (ret := (some .int)) (by decide +kernel) rfl ?_
  intro p e s m args below meth c s₁ B hml hv
  obtain ⟨rfl, hsz, hP, hK, hD0, hZ⟩ := hv
  have hx := B.exec
  have hb := B.bytes
  have hr := B.returns
  have hts := atoms_spec (ws := (wsOf yJ15_checkIndex_7cf53 cJ15_checkIndex_7cf53 2 (some .int))) B.pre
  have hown : s.vm.findClass RJ15 = some m.cls := findClass_of_methodNamed B.named
  have hlocks := B.notSynchronized
  subst hsz
  have hD := hD0.self (sz := s.heap.size)
  generalize hAe : va_A (cW cB cI cJ cZ cS cO b cs) s.heap.size = A at hD hZ ⊢
  have hA : ∀ q : Nat, s.heap.size ≤ q → A q := fun q h => by rw [← hAe]; exact Or.inr h
  have hS : va_S A s.heap s.heap [] := va_S.rf
  have hl := lv_entry ([.int x0, .int x1]) (n := 2) (Nat.le_of_ble_eq_true rfl)
  rw [lg_entry_eq]
  generalize (lg_sl ([.int x0, .int x1]) ++ List.replicate (2 - (lg_sl ([.int x0, .int x1])).length) Slot.unset).toArray = ls at hl ⊢
  have hl : lv_has ls 2 [(0, .int x0), (1, .int x1)] := hl
  have h := hf
  unfold c_J15_checkIndex_7cf53 at h
  refine lv_iload_n hx hb dJ15_checkIndex_7cf53_0 rfl (lv_at hl 0 rfl) ?_
  refine lv_iload_n hx hb dJ15_checkIndex_7cf53_1 rfl (lv_at hl 1 rfl) ?_
  refine lv_null hx hb dJ15_checkIndex_7cf53_2 ?_
  replace h := ob h; obtain ⟨v_1, hv_1, h⟩ := h
  refine ccSI (As := [.int x0, .int x1, rv b none]) hx hb hml hts hown hK hP hD hS hA hZ (sc_J3_checkIndex_8e157 l dC dI cB cI cJ cZ cS cO b K V fz F cs x0 x1  v_1 hv_1) (cw_J15_J3_checkIndex_8e157 hts (fr := 0) (Nat.le_of_ble_eq_true rfl) (Nat.le_of_ble_eq_true rfl)) rfl hl.1 (Nat.le_of_ble_eq_true rfl) ⟨Nat.zero_le _, Nat.zero_le _⟩ dJ15_checkIndex_7cf53_3 (fun H locs hP hD hS => ?_)
  have e2 := Option.some.inj h
  exact W.iret (v := v_1) hx hb hr (fun t_ ht hW => ⟨⟨v_1, (), rfl, e2, by rw [ht]; exact hP, hD⟩, hS.F ht⟩) hS.2.2 dJ15_checkIndex_7cf53_6
theorem dJx4a65c_elementData_915e3_0 : decode cJx4a65c_elementData_915e3 0 = .ok (.aload_n 0, 1) := by decide +kernel
theorem dJx4a65c_elementData_915e3_1 : decode cJx4a65c_elementData_915e3 1 = .ok (.getfield 9, 3) := by decide +kernel
theorem dJx4a65c_elementData_915e3_4 : decode cJx4a65c_elementData_915e3 4 = .ok (.iload_n 1, 1) := by decide +kernel
theorem dJx4a65c_elementData_915e3_5 : decode cJx4a65c_elementData_915e3 5 = .ok (.aaload, 1) := by decide +kernel
theorem dJx4a65c_elementData_915e3_6 : decode cJx4a65c_elementData_915e3 6 = .ok (.areturn, 1) := by decide +kernel
set_option maxRecDepth 20000 in
theorem kc_Jx4a65c_elementData_915e3 : Cond.code yJx4a65c_elementData_915e3 cJx4a65c_elementData_915e3 2 (some (.object "java/lang/Object")) ∈ wsG := kGm (tab_5 (List.mem_of_getElem? (i := 53) rfl)) rfl
def c_Jx4a65c_elementData_915e3 (F : Nat) (cs : CS) (x0 : Nat) (x1 : Int32) : Option Nat := Option.bind (gA cs 0 1 x0) fun v_1 => Option.bind (rQ cs 1 x0 v_1 x1) fun v_2 => Option.bind (v_2) fun i_3 => some i_3
theorem cw_Jx4a65c_Jx4a65c_elementData_915e3 {R : Room} {s : State} {args : Array Value} {y0 : MethodName} {c0 : ByteArray} {n0 : Nat} {r0 : Option FieldType} (hts : ∀ w ∈ wsOf y0 c0 n0 r0, w.before args s = true) {fr : Nat} (h1 : fr + 1 ≤ R.frames) (h2 : 8 + (2 + 11) + 60 * fr ≤ R.locals) : CallW R s args RJx4a65c RJx4a65c 123 yJx4a65c_elementData_915e3 cJx4a65c_elementData_915e3 2 (some (.object "java/lang/Object")) (wsOf yJx4a65c_elementData_915e3 cJx4a65c_elementData_915e3 2 (some (.object "java/lang/Object"))) ({ frames := fr, cells := 0, slots := 0, locals := 60 * fr } : Room) 0 0 1 := cwV 1 hts (gd_all (in_V kw_1190 kw_1191 kw_1192 kw_199 kc_Jx4a65c_elementData_915e3)) rfl rfl rfl (by decide +kernel) ⟨h1, h2⟩
set_option maxHeartbeats 4000000 in
set_option maxRecDepth 100000 in
theorem sc_Jx4a65c_elementData_915e3 (l : Launch) (dC : Nat → ClassId) (dI : Nat → Nat → Nat) (cB cI cJ cZ cS cO : ClassId) (b : Nat) (K V : Nat → Nat) (fz : Value) (F : Nat) (cs : CS) (x0 : Nat) (x1 : Int32) (r9 : Nat) (hf : c_Jx4a65c_elementData_915e3 F cs x0 x1 = some r9) : ocR l dC dI cB cI cJ cZ cS cO b K V fz yJx4a65c_elementData_915e3 (wsOf yJx4a65c_elementData_915e3 cJx4a65c_elementData_915e3 2 (some (.object "java/lang/Object"))) (0) [.ref (b + x0), .int x1] cs cs r9 := by
  intro sz
  refine va_MetF (cc := cJx4a65c_elementData_915e3) (maxL := 2) (ret := (some (.object "java/lang/Object"))) (by decide +kernel) rfl ?_
  intro p e s m args below meth c s₁ B hml hv
  obtain ⟨rfl, hsz, hP, hK, hD0, hZ⟩ := hv
  have hx := B.exec
  have hb := B.bytes
  have hr := B.returns
  have hts := atoms_spec (ws := (wsOf yJx4a65c_elementData_915e3 cJx4a65c_elementData_915e3 2 (some (.object "java/lang/Object")))) B.pre
  have hown : s.vm.findClass RJx4a65c = some m.cls := findClass_of_methodNamed B.named
  have hlocks := B.notSynchronized
  subst hsz
  have hD := hD0.self (sz := s.heap.size)
  generalize hAe : va_A (cW cB cI cJ cZ cS cO b cs) s.heap.size = A at hD hZ ⊢
  have hA : ∀ q : Nat, s.heap.size ≤ q → A q := fun q h => by rw [← hAe]; exact Or.inr h
  have hS : va_S A s.heap s.heap [] := va_S.rf
  have hl := lv_entry ([.ref (b + x0), .int x1]) (n := 2) (Nat.le_of_ble_eq_true rfl)
  rw [lg_entry_eq]
  generalize (lg_sl ([.ref (b + x0), .int x1]) ++ List.replicate (2 - (lg_sl ([.ref (b + x0), .int x1])).length) Slot.unset).toArray = ls at hl ⊢
  have hl : lv_has ls 2 [(0, .ref (b + x0)), (1, .int x1)] := hl
  have h := hf
  unfold c_Jx4a65c_elementData_915e3 at h
  refine lv_aload_n hx hb dJx4a65c_elementData_915e3_0 rfl (lv_at hl 0 rfl) ?_
  replace h := ob h; obtain ⟨v_1, hv_1, h⟩ := h
  refine fg_Jx4a65c_9 hx hb hts hown hK hP hv_1 dJx4a65c_elementData_915e3_1 ?_
  refine lv_iload_n hx hb dJx4a65c_elementData_915e3_4 rfl (lv_at hl 1 rfl) ?_
  replace h := ob h; obtain ⟨v_2, hv_2, h⟩ := h
  refine aldO hx hb hK hP rfl hv_2 dJx4a65c_elementData_915e3_5 ?_
  replace h := ob h; obtain ⟨i_3, hi_3, h⟩ := h
  subst hi_3
  have e2 := Option.some.inj h
  exact W.aret (v := .ref (b + i_3)) hx hb hr (Or.inl ⟨_, rfl⟩) (Or.inr ⟨_, rfl⟩) (fun t_ ht hW => ⟨⟨(), b + i_3, rfl, trivial, by rw [e2], by rw [ht]; exact hP, hD⟩, hS.F ht⟩) hS.2.2 dJx4a65c_elementData_915e3_6
theorem dJx4a65c_get_915e3_0 : decode cJx4a65c_get_915e3 0 = .ok (.iload_n 1, 1) := by decide +kernel
theorem dJx4a65c_get_915e3_1 : decode cJx4a65c_get_915e3 1 = .ok (.aload_n 0, 1) := by decide +kernel
theorem dJx4a65c_get_915e3_2 : decode cJx4a65c_get_915e3 2 = .ok (.getfield 48, 3) := by decide +kernel
theorem dJx4a65c_get_915e3_5 : decode cJx4a65c_get_915e3 5 = .ok (.invokestatic 118, 3) := by decide +kernel
theorem dJx4a65c_get_915e3_8 : decode cJx4a65c_get_915e3 8 = .ok (.pop, 1) := by decide +kernel
theorem dJx4a65c_get_915e3_9 : decode cJx4a65c_get_915e3 9 = .ok (.aload_n 0, 1) := by decide +kernel
theorem dJx4a65c_get_915e3_10 : decode cJx4a65c_get_915e3 10 = .ok (.iload_n 1, 1) := by decide +kernel
theorem dJx4a65c_get_915e3_11 : decode cJx4a65c_get_915e3 11 = .ok (.invokevirtual 123, 3) := by decide +kernel
theorem dJx4a65c_get_915e3_14 : decode cJx4a65c_get_915e3 14 = .ok (.areturn, 1) := by decide +kernel
set_option maxRecDepth 20000 in
theorem kc_Jx4a65c_get_915e3 : Cond.code yJx4a65c_get_915e3 cJx4a65c_get_915e3 2 (some (.object "java/lang/Object")) ∈ wsG := kGm (tab_5 (List.mem_of_getElem? (i := 45) rfl)) rfl
def c_Jx4a65c_get_915e3 (F : Nat) (cs : CS) (x0 : Nat) (x1 : Int32) : Option Nat := Option.bind (gI cs 0 2 x0) fun v_1 => Option.bind (c_J15_checkIndex_7cf53 F cs x1 v_1) fun v_2 => Option.bind (ckE cs 0 x0) fun _ => Option.bind (c_Jx4a65c_elementData_915e3 F cs x0 x1) fun v_3 => some v_3
theorem cw_X0_Jx4a65c_get_915e3 {R : Room} {s : State} {args : Array Value} {y0 : MethodName} {c0 : ByteArray} {n0 : Nat} {r0 : Option FieldType} (hts : ∀ w ∈ wsOf y0 c0 n0 r0, w.before args s = true) {fr : Nat} (h1 : fr + 1 ≤ R.frames) (h2 : 8 + (2 + 11) + 60 * fr ≤ R.locals) : CallW R s args RX0 RJx4a65c 46 yJx4a65c_get_915e3 cJx4a65c_get_915e3 2 (some (.object "java/lang/Object")) (wsOf yJx4a65c_get_915e3 cJx4a65c_get_915e3 2 (some (.object "java/lang/Object"))) ({ frames := fr, cells := 0, slots := 0, locals := 60 * fr } : Room) 0 0 1 := cwV 1 hts (gd_all (in_V kw_1182 kw_1183 kw_1184 kw_199 kc_Jx4a65c_get_915e3)) rfl rfl rfl (by decide +kernel) ⟨h1, h2⟩
theorem cw_X4_Jx4a65c_get_915e3 {R : Room} {s : State} {args : Array Value} {y0 : MethodName} {c0 : ByteArray} {n0 : Nat} {r0 : Option FieldType} (hts : ∀ w ∈ wsOf y0 c0 n0 r0, w.before args s = true) {fr : Nat} (h1 : fr + 1 ≤ R.frames) (h2 : 8 + (2 + 11) + 60 * fr ≤ R.locals) : CallW R s args RX4 RJx4a65c 44 yJx4a65c_get_915e3 cJx4a65c_get_915e3 2 (some (.object "java/lang/Object")) (wsOf yJx4a65c_get_915e3 cJx4a65c_get_915e3 2 (some (.object "java/lang/Object"))) ({ frames := fr, cells := 0, slots := 0, locals := 60 * fr } : Room) 0 0 1 := cwV 1 hts (gd_all (in_V kw_1369 kw_1183 kw_1184 kw_199 kc_Jx4a65c_get_915e3)) rfl rfl rfl (by decide +kernel) ⟨h1, h2⟩
set_option maxHeartbeats 4000000 in
set_option maxRecDepth 100000 in
theorem sc_Jx4a65c_get_915e3 (l : Launch) (dC : Nat → ClassId) (dI : Nat → Nat → Nat) (cB cI cJ cZ cS cO : ClassId) (b : Nat) (K V : Nat → Nat) (fz : Value) (F : Nat) (cs : CS) (x0 : Nat) (x1 : Int32) (r9 : Nat) (hf : c_Jx4a65c_get_915e3 F cs x0 x1 = some r9) : ocR l dC dI cB cI cJ cZ cS cO b K V fz yJx4a65c_get_915e3 (wsOf yJx4a65c_get_915e3 cJx4a65c_get_915e3 2 (some (.object "java/lang/Object"))) (2) [.ref (b + x0), .int x1] cs cs r9 := by
  intro sz
  refine va_MetF (cc := cJx4a65c_get_915e3) (maxL := 2) (ret := (some (.object "java/lang/Object"))) (by decide +kernel) rfl ?_
  intro p e s m args below meth c s₁ B hml hv
  obtain ⟨rfl, hsz, hP, hK, hD0, hZ⟩ := hv
  have hx := B.exec
  have hb := B.bytes
  have hr := B.returns
  have hts := atoms_spec (ws := (wsOf yJx4a65c_get_915e3 cJx4a65c_get_915e3 2 (some (.object "java/lang/Object")))) B.pre
  have hown : s.vm.findClass RJx4a65c = some m.cls := findClass_of_methodNamed B.named
  have hlocks := B.notSynchronized
  subst hsz
  have hD := hD0.self (sz := s.heap.size)
  generalize hAe : va_A (cW cB cI cJ cZ cS cO b cs) s.heap.size = A at hD hZ ⊢
  have hA : ∀ q : Nat, s.heap.size ≤ q → A q := fun q h => by rw [← hAe]; exact Or.inr h
  have hS : va_S A s.heap s.heap [] := va_S.rf
  have hl := lv_entry ([.ref (b + x0), .int x1]) (n := 2) (Nat.le_of_ble_eq_true rfl)
  rw [lg_entry_eq]
  generalize (lg_sl ([.ref (b + x0), .int x1]) ++ List.replicate (2 - (lg_sl ([.ref (b + x0), .int x1])).length) Slot.unset).toArray = ls at hl ⊢
  have hl : lv_has ls 2 [(0, .ref (b + x0)), (1, .int x1)] := hl
  have h := hf
  unfold c_Jx4a65c_get_915e3 at h
  refine lv_iload_n hx hb dJx4a65c_get_915e3_0 rfl (lv_at hl 1 rfl) ?_
  refine lv_aload_n hx hb dJx4a65c_get_915e3_1 rfl (lv_at hl 0 rfl) ?_
  replace h := ob h; obtain ⟨v_1, hv_1, h⟩ := h
  refine fg_Jx4a65c_48 hx hb hts hown hK hP hv_1 dJx4a65c_get_915e3_2 ?_
  replace h := ob h; obtain ⟨v_2, hv_2, h⟩ := h
  refine ccSI (As := [.int x1, .int v_1]) hx hb hml hts hown hK hP hD hS hA hZ (sc_J15_checkIndex_7cf53 l dC dI cB cI cJ cZ cS cO b K V fz F cs x1 v_1 v_2 hv_2) (cw_Jx4a65c_J15_checkIndex_7cf53 hts (fr := 1) (Nat.le_of_ble_eq_true rfl) (Nat.le_of_ble_eq_true rfl)) rfl hl.1 (Nat.le_of_ble_eq_true rfl) ⟨Nat.zero_le _, Nat.zero_le _⟩ dJx4a65c_get_915e3_5 (fun H locs hP hD hS => ?_)
  refine lv_pop hx hb dJx4a65c_get_915e3_8 rfl ?_
  refine lv_aload_n hx hb dJx4a65c_get_915e3_9 rfl (lv_at hl 0 rfl) ?_
  refine lv_iload_n hx hb dJx4a65c_get_915e3_10 rfl (lv_at hl 1 rfl) ?_
  replace h := ob h; obtain ⟨w_4, hw_4, h⟩ := h
  replace h := ob h; obtain ⟨v_3, hv_3, h⟩ := h
  refine ccR (As := [.int x1]) hx hb hml hts hown hK hP hD hS hA hZ (X := 0) (by decide) rfl (ckE_some hw_4) (sc_Jx4a65c_elementData_915e3 l dC dI cB cI cJ cZ cS cO b K V fz F cs x0 x1 v_3 hv_3) (cw_Jx4a65c_Jx4a65c_elementData_915e3 hts (fr := 0) (Nat.le_of_ble_eq_true rfl) (Nat.le_of_ble_eq_true rfl)) rfl hl.1 (Nat.le_of_ble_eq_true rfl) ⟨Nat.zero_le _, Nat.zero_le _⟩ dJx4a65c_get_915e3_11 (fun H locs hP hD hS => ?_)
  have e2 := Option.some.inj h
  exact W.aret (v := .ref (b + v_3)) hx hb hr (Or.inl ⟨_, rfl⟩) (Or.inr ⟨_, rfl⟩) (fun t_ ht hW => ⟨⟨(), b + v_3, rfl, trivial, by rw [e2], by rw [ht]; exact hP, hD⟩, hS.F ht⟩) hS.2.2 dJx4a65c_get_915e3_14
theorem dX2_find_0 : decode cX2_find 0 = .ok (.iload_n 3, 1) := by decide +kernel
theorem dX2_find_1 : decode cX2_find 1 = .ok (.iconst 0, 1) := by decide +kernel
theorem dX2_find_2 : decode cX2_find 2 = .ok (.invokestatic 33, 3) := by decide +kernel
theorem dX2_find_5 : decode cX2_find 5 = .ok (.istore 4, 2) := by decide +kernel
theorem dX2_find_7 : decode cX2_find 7 = .ok (.iload 4, 2) := by decide +kernel
theorem dX2_find_9 : decode cX2_find 9 = .ok (.aload_n 0, 1) := by decide +kernel
theorem dX2_find_10 : decode cX2_find 10 = .ok (.getfield 25, 3) := by decide +kernel
theorem dX2_find_13 : decode cX2_find 13 = .ok (.if_icmp .ge 31, 3) := by decide +kernel
theorem dX2_find_16 : decode cX2_find 16 = .ok (.iload 4, 2) := by decide +kernel
theorem dX2_find_18 : decode cX2_find 18 = .ok (.bipush 8, 2) := by decide +kernel
theorem dX2_find_20 : decode cX2_find 20 = .ok (.if_icmp .ge 24, 3) := by decide +kernel
theorem dX2_find_23 : decode cX2_find 23 = .ok (.aload_n 0, 1) := by decide +kernel
theorem dX2_find_24 : decode cX2_find 24 = .ok (.getfield 15, 3) := by decide +kernel
theorem dX2_find_27 : decode cX2_find 27 = .ok (.iload 4, 2) := by decide +kernel
theorem dX2_find_29 : decode cX2_find 29 = .ok (.laload, 1) := by decide +kernel
theorem dX2_find_30 : decode cX2_find 30 = .ok (.lload_n 1, 1) := by decide +kernel
theorem dX2_find_31 : decode cX2_find 31 = .ok (.lcmp, 1) := by decide +kernel
theorem dX2_find_32 : decode cX2_find 32 = .ok (.ifCond .ne 6, 3) := by decide +kernel
theorem dX2_find_35 : decode cX2_find 35 = .ok (.iload 4, 2) := by decide +kernel
theorem dX2_find_37 : decode cX2_find 37 = .ok (.ireturn, 1) := by decide +kernel
theorem dX2_find_38 : decode cX2_find 38 = .ok (.iinc 4 1, 3) := by decide +kernel
theorem dX2_find_41 : decode cX2_find 41 = .ok (.goto (-34), 3) := by decide +kernel
theorem dX2_find_44 : decode cX2_find 44 = .ok (.iconst (-1), 1) := by decide +kernel
theorem dX2_find_45 : decode cX2_find 45 = .ok (.ireturn, 1) := by decide +kernel
def c_X2_find_b44 (F : Nat) (cs : CS) : Option Int32 := some (-1)
def c_X2_find_L7 (F : Nat) (cs : CS) : Nat → Nat → Int64 → Int32 → Option Int32
  | 0, _, _, _ => none
  | lf_7 + 1, u0, u1, u4 => Option.bind (gI cs 3 96 u0) fun v_1 => if v_1 ≤ u4 then (c_X2_find_b44 F cs ) else (if 8 ≤ u4 then (c_X2_find_b44 F cs ) else (Option.bind (gA cs 3 98 u0) fun v_4 => Option.bind (rB cs 98 u0 v_4 u4) fun v_5 => if v_5 = u1 then (some u4) else ((c_X2_find_L7 F cs lf_7) u0 u1 (u4 + 1))))
def c_X2_find (F : Nat) (cs : CS) (x0 : Nat) (x1 : Int64) (x3 : Int32) : Option Int32 := c_X2_find_L7 F cs F x0 x1 (if x3 < 0 then 0 else x3)
theorem cw_X0_X2_find {R : Room} {s : State} {args : Array Value} {y0 : MethodName} {c0 : ByteArray} {n0 : Nat} {r0 : Option FieldType} (hts : ∀ w ∈ wsOf y0 c0 n0 r0, w.before args s = true) {fr : Nat} (h1 : fr + 1 ≤ R.frames) (h2 : 8 + (5 + 11) + 60 * fr ≤ R.locals) : CallW R s args RX0 RX2 261 yX2_find cX2_find 5 (some .int) (wsOf yX2_find cX2_find 5 (some .int)) ({ frames := fr, cells := 0, slots := 0, locals := 60 * fr } : Room) 0 0 2 := cwV 2 hts (gd_all (in_V kw_1267 kw_1214 kw_1215 kw_196 kc_X2_find)) rfl rfl rfl (by decide +kernel) ⟨h1, h2⟩
theorem cw_X2_X2_find {R : Room} {s : State} {args : Array Value} {y0 : MethodName} {c0 : ByteArray} {n0 : Nat} {r0 : Option FieldType} (hts : ∀ w ∈ wsOf y0 c0 n0 r0, w.before args s = true) {fr : Nat} (h1 : fr + 1 ≤ R.frames) (h2 : 8 + (5 + 11) + 60 * fr ≤ R.locals) : CallW R s args RX2 RX2 41 yX2_find cX2_find 5 (some .int) (wsOf yX2_find cX2_find 5 (some .int)) ({ frames := fr, cells := 0, slots := 0, locals := 60 * fr } : Room) 0 0 2 := cwV 2 hts (gd_all (in_V kw_1213 kw_1214 kw_1215 kw_196 kc_X2_find)) rfl rfl rfl (by decide +kernel) ⟨h1, h2⟩
set_option maxHeartbeats 4000000 in
set_option maxRecDepth 100000 in
theorem sc_X2_find (l : Launch) (dC : Nat → ClassId) (dI : Nat → Nat → Nat) (cB cI cJ cZ cS cO : ClassId) (b : Nat) (K V : Nat → Nat) (fz : Value) (F : Nat) (cs : CS) (x0 : Nat) (x1 : Int64) (x3 : Int32) (r9 : Int32) (hf : c_X2_find F cs x0 x1 x3 = some r9) : ocI l dC dI cB cI cJ cZ cS cO b K V fz yX2_find (wsOf yX2_find cX2_find 5 (some .int)) (1) [.ref (b + x0), .long x1, .int x3] cs cs r9 := by
  intro sz
  refine Met.ofW (cc := cX2_find) (maxL := 5) (ret := (some .int)) (by decide) rfl ?_
  intro p e s m args below meth c s₁ B hml hv
  obtain ⟨rfl, hsz, hP, hK, hD0, hZ⟩ := hv
  have hx := B.exec
  have hb := B.bytes
  have hr := B.returns
  have hts := atoms_spec (ws := (wsOf yX2_find cX2_find 5 (some .int))) B.pre
  have hown : s.vm.findClass RX2 = some m.cls := findClass_of_methodNamed B.named
  have hlocks := B.notSynchronized
  subst hsz
  have hD := hD0.self (sz := s.heap.size)
  generalize hAe : va_A (cW cB cI cJ cZ cS cO b cs) s.heap.size = A at hD hZ ⊢
  have hA : ∀ q : Nat, s.heap.size ≤ q → A q := fun q h => by rw [← hAe]; exact Or.inr h
  have hS : va_S A s.heap s.heap [] := va_S.rf
  have hl := lv_entry ([.ref (b + x0), .long x1, .int x3]) (n := 5) (Nat.le_of_ble_eq_true rfl)
  rw [lg_entry_eq]
  generalize (lg_sl ([.ref (b + x0), .long x1, .int x3]) ++ List.replicate (5 - (lg_sl ([.ref (b + x0), .long x1, .int x3])).length) Slot.unset).toArray = ls at hl ⊢
  have hl : lv_has ls 5 [(0, .ref (b + x0)), (1, .long x1), (3, .int x3)] := hl
  have B_44 : c_X2_find_b44 F cs = some r9 → ∀ (H : Heap) (locs : List Loc) (ls : Array Slot), va_P (dC, dI) vwCl (cW cB cI cJ cZ cS cO b cs) H → va_D A (cW cB cI cJ cZ cS cO b cs) → va_S A s.heap H locs → lv_has ls 5 [] → W p l e (headSpec (wsOf yX2_find cX2_find 5 (some .int)) ({ frames := 1, cells := 0, slots := 0, locals := 60 * (1) } : Room)).room s m ([.ref (b + x0), .long x1, .int x3] : List Value).toArray below meth c H locs 0 0 (MQ below (va_Qi (fun (x : Int32) (_ : Unit) => x = r9) (fun _ t_ => va_P (dC, dI) vwCl (cW cB cI cJ cZ cS cO b cs) t_.heap ∧ va_D A (cW cB cI cJ cZ cS cO b cs)) A) ([.ref (b + x0), .long x1, .int x3] : List Value).toArray s 0 0 A) (F0 m 44 ls []) := by
    intro  h H locs ls hP hD hS hl
    unfold c_X2_find_b44 at h
    refine lv_iconst (v := (-1)) hx hb dX2_find_44 (by decide) ?_
    have e2 := Option.some.inj h
    exact W.iret (v := (-1)) hx hb hr (fun t_ ht hW => ⟨⟨(-1), (), rfl, e2, by rw [ht]; exact hP, hD⟩, hS.F ht⟩) hS.2.2 dX2_find_45
  have L_7 : ∀ (lf_7 : Nat), ∀ (u0 : Nat) (u1 : Int64) (u4 : Int32), c_X2_find_L7 F cs lf_7 u0 u1 u4 = some r9 → ∀ (H : Heap) (locs : List Loc) (ls : Array Slot), va_P (dC, dI) vwCl (cW cB cI cJ cZ cS cO b cs) H → va_D A (cW cB cI cJ cZ cS cO b cs) → va_S A s.heap H locs → lv_has ls 5 [(0, .ref (b + u0)), (1, .long u1), (4, .int u4)] → W p l e (headSpec (wsOf yX2_find cX2_find 5 (some .int)) ({ frames := 1, cells := 0, slots := 0, locals := 60 * (1) } : Room)).room s m ([.ref (b + x0), .long x1, .int x3] : List Value).toArray below meth c H locs 0 0 (MQ below (va_Qi (fun (x : Int32) (_ : Unit) => x = r9) (fun _ t_ => va_P (dC, dI) vwCl (cW cB cI cJ cZ cS cO b cs) t_.heap ∧ va_D A (cW cB cI cJ cZ cS cO b cs)) A) ([.ref (b + x0), .long x1, .int x3] : List Value).toArray s 0 0 A) (F0 m 7 ls []) := by
    intro lf_7
    induction lf_7 with
    | zero => intro u0 u1 u4 h; cases (show (none : Option Int32) = _ from h)
    | succ lf_7 ih_7 =>
      intro u0 u1 u4 h H locs ls hP hD hS hl
      rw [c_X2_find_L7] at h
      refine lv_iload hx hb dX2_find_7 (lv_at hl 2 rfl) ?_
      refine lv_aload_n hx hb dX2_find_9 rfl (lv_at hl 0 rfl) ?_
      replace h := ob h; obtain ⟨v_1, hv_1, h⟩ := h
      refine fg_X2_25 hx hb hts hown hK hP hv_1 dX2_find_10 ?_
      refine lv_icmp_ge (tgt := 44) hx hb dX2_find_13 (by decide) (fun c_2 => ?_) (fun c_2 => ?_)
      · skip
        replace h := (if_pos c_2).symm.trans h
        exact B_44  h _ _ _ hP hD hS (lv_sub hl [] rfl)
      · skip
        replace h := (if_neg c_2).symm.trans h
        refine lv_iload hx hb dX2_find_16 (lv_at hl 2 rfl) ?_
        refine lv_bipush (v := 8) hx hb dX2_find_18 (by decide) ?_
        refine lv_icmp_ge (tgt := 44) hx hb dX2_find_20 (by decide) (fun c_3 => ?_) (fun c_3 => ?_)
        · skip
          replace h := (if_pos c_3).symm.trans h
          exact B_44  h _ _ _ hP hD hS (lv_sub hl [] rfl)
        · skip
          replace h := (if_neg c_3).symm.trans h
          refine lv_aload_n hx hb dX2_find_23 rfl (lv_at hl 0 rfl) ?_
          replace h := ob h; obtain ⟨v_4, hv_4, h⟩ := h
          refine fg_X2_15 hx hb hts hown hK hP hv_4 dX2_find_24 ?_
          refine lv_iload hx hb dX2_find_27 (lv_at hl 2 rfl) ?_
          replace h := ob h; obtain ⟨v_5, hv_5, h⟩ := h
          refine ald2 hx hb hK hP rfl hv_5 dX2_find_29 ?_
          refine lv_lload_n hx hb dX2_find_30 rfl (lv_at hl 1 rfl) ?_
          refine W.lcmp hx hb dX2_find_31 ?_
          refine lv_if_ne (tgt := 38) hx hb dX2_find_32 (by decide) (fun c_6 => ?_) (fun c_6 => ?_)
          · skip
            have c_6 : ¬ (v_5 = u1) := fun h9 => c_6 ((lg_cmp_eq _ _).mpr h9)
            replace h := (if_neg c_6).symm.trans h
            refine lv_iinc (v := u4 + 1) (lv' := [(4, .int (u4 + 1)), (0, .ref (b + u0)), (1, .long u1)]) hx hb dX2_find_38 hl (k := 2) rfl rfl (by decide) rfl (fun ls hl => ?_)
            refine lv_goto (tgt := 7) hx hb dX2_find_41 (by decide) ?_
            exact ih_7 u0 u1 (u4 + 1) h _ _ _ hP hD hS (lv_sub hl [1, 2, 0] rfl)
          · skip
            have c_6 : v_5 = u1 := (lg_cmp_eq _ _).mp c_6
            replace h := (if_pos c_6).symm.trans h
            refine lv_iload hx hb dX2_find_35 (lv_at hl 2 rfl) ?_
            have e2 := Option.some.inj h
            exact W.iret (v := u4) hx hb hr (fun t_ ht hW => ⟨⟨u4, (), rfl, e2, by rw [ht]; exact hP, hD⟩, hS.F ht⟩) hS.2.2 dX2_find_37
  have h := hf
  unfold c_X2_find at h
  refine lv_iload_n hx hb dX2_find_0 rfl (lv_at hl 2 rfl) ?_
  refine lv_iconst (v := 0) hx hb dX2_find_1 (by decide) ?_
  refine va_mmax (x := x3) (y := 0) hx hb (hml.trans hl.1.symm) hown (hts _ (List.mem_cons_of_mem _ kw_1217)) (hts _ (List.mem_cons_of_mem _ kw_369)) (hts _ (List.mem_cons_of_mem _ kw_190)) (hts _ (List.mem_cons_of_mem _ kc_max)) (Nat.le_of_ble_eq_true rfl) (Nat.le_of_ble_eq_true rfl) (Nat.zero_le _) (Nat.zero_le _) dX2_find_2 ?_
  refine lv_istore (lv' := [(4, .int (if x3 < 0 then 0 else x3)), (0, .ref (b + x0)), (1, .long x1), (3, .int x3)]) hx hb dX2_find_5 hl (by decide) rfl (fun ls hl => ?_)
  exact L_7 F x0 x1 (if x3 < 0 then 0 else x3) h _ _ _ hP hD hS (lv_sub hl [1, 2, 0] rfl)
theorem dX2_allNamedApart_0 : decode cX2_allNamedApart 0 = .ok (.iconst 0, 1) := by decide +kernel
theorem dX2_allNamedApart_1 : decode cX2_allNamedApart 1 = .ok (.istore_n 1, 1) := by decide +kernel
theorem dX2_allNamedApart_2 : decode cX2_allNamedApart 2 = .ok (.iload_n 1, 1) := by decide +kernel
theorem dX2_allNamedApart_3 : decode cX2_allNamedApart 3 = .ok (.aload_n 0, 1) := by decide +kernel
theorem dX2_allNamedApart_4 : decode cX2_allNamedApart 4 = .ok (.getfield 25, 3) := by decide +kernel
theorem dX2_allNamedApart_7 : decode cX2_allNamedApart 7 = .ok (.if_icmp .ge 47, 3) := by decide +kernel
theorem dX2_allNamedApart_10 : decode cX2_allNamedApart 10 = .ok (.iload_n 1, 1) := by decide +kernel
theorem dX2_allNamedApart_11 : decode cX2_allNamedApart 11 = .ok (.bipush 8, 2) := by decide +kernel
theorem dX2_allNamedApart_13 : decode cX2_allNamedApart 13 = .ok (.if_icmp .ge 41, 3) := by decide +kernel
theorem dX2_allNamedApart_16 : decode cX2_allNamedApart 16 = .ok (.aload_n 0, 1) := by decide +kernel
theorem dX2_allNamedApart_17 : decode cX2_allNamedApart 17 = .ok (.getfield 15, 3) := by decide +kernel
theorem dX2_allNamedApart_20 : decode cX2_allNamedApart 20 = .ok (.iload_n 1, 1) := by decide +kernel
theorem dX2_allNamedApart_21 : decode cX2_allNamedApart 21 = .ok (.laload, 1) := by decide +kernel
theorem dX2_allNamedApart_22 : decode cX2_allNamedApart 22 = .ok (.ldc2_w 39, 3) := by decide +kernel
theorem dX2_allNamedApart_25 : decode cX2_allNamedApart 25 = .ok (.lcmp, 1) := by decide +kernel
theorem dX2_allNamedApart_26 : decode cX2_allNamedApart 26 = .ok (.ifCond .eq 20, 3) := by decide +kernel
theorem dX2_allNamedApart_29 : decode cX2_allNamedApart 29 = .ok (.aload_n 0, 1) := by decide +kernel
theorem dX2_allNamedApart_30 : decode cX2_allNamedApart 30 = .ok (.aload_n 0, 1) := by decide +kernel
theorem dX2_allNamedApart_31 : decode cX2_allNamedApart 31 = .ok (.getfield 15, 3) := by decide +kernel
theorem dX2_allNamedApart_34 : decode cX2_allNamedApart 34 = .ok (.iload_n 1, 1) := by decide +kernel
theorem dX2_allNamedApart_35 : decode cX2_allNamedApart 35 = .ok (.laload, 1) := by decide +kernel
theorem dX2_allNamedApart_36 : decode cX2_allNamedApart 36 = .ok (.iload_n 1, 1) := by decide +kernel
theorem dX2_allNamedApart_37 : decode cX2_allNamedApart 37 = .ok (.iconst 1, 1) := by decide +kernel
theorem dX2_allNamedApart_38 : decode cX2_allNamedApart 38 = .ok (.iadd, 1) := by decide +kernel
theorem dX2_allNamedApart_39 : decode cX2_allNamedApart 39 = .ok (.invokevirtual 41, 3) := by decide +kernel
theorem dX2_allNamedApart_42 : decode cX2_allNamedApart 42 = .ok (.iconst (-1), 1) := by decide +kernel
theorem dX2_allNamedApart_43 : decode cX2_allNamedApart 43 = .ok (.if_icmp .eq 5, 3) := by decide +kernel
theorem dX2_allNamedApart_46 : decode cX2_allNamedApart 46 = .ok (.iconst 0, 1) := by decide +kernel
theorem dX2_allNamedApart_47 : decode cX2_allNamedApart 47 = .ok (.ireturn, 1) := by decide +kernel
theorem dX2_allNamedApart_48 : decode cX2_allNamedApart 48 = .ok (.iinc 1 1, 3) := by decide +kernel
theorem dX2_allNamedApart_51 : decode cX2_allNamedApart 51 = .ok (.goto (-49), 3) := by decide +kernel
theorem dX2_allNamedApart_54 : decode cX2_allNamedApart 54 = .ok (.iconst 1, 1) := by decide +kernel
theorem dX2_allNamedApart_55 : decode cX2_allNamedApart 55 = .ok (.ireturn, 1) := by decide +kernel
def c_X2_allNamedApart_b46 (F : Nat) (cs : CS) : Option Int32 := some 0
def c_X2_allNamedApart_b54 (F : Nat) (cs : CS) : Option Int32 := some 1
def c_X2_allNamedApart_L2 (F : Nat) (cs : CS) : Nat → Nat → Int32 → Option Int32
  | 0, _, _ => none
  | lf_2 + 1, u0, u1 => Option.bind (gI cs 3 96 u0) fun v_1 => if v_1 ≤ u1 then (c_X2_allNamedApart_b54 F cs ) else (if 8 ≤ u1 then (c_X2_allNamedApart_b54 F cs ) else (Option.bind (gA cs 3 98 u0) fun v_4 => Option.bind (rB cs 98 u0 v_4 u1) fun v_5 => if v_5 = (-1) then (c_X2_allNamedApart_b46 F cs ) else (Option.bind (gA cs 3 98 u0) fun v_7 => Option.bind (rB cs 98 u0 v_7 u1) fun v_8 => Option.bind (ckE cs 3 u0) fun _ => Option.bind (c_X2_find F cs u0 v_8 (u1 + 1)) fun v_9 => if v_9 = (-1) then ((c_X2_allNamedApart_L2 F cs lf_2) u0 (u1 + 1)) else (c_X2_allNamedApart_b46 F cs ))))
def c_X2_allNamedApart (F : Nat) (cs : CS) (x0 : Nat) : Option Int32 := c_X2_allNamedApart_L2 F cs F x0 0
theorem cw_X0_X2_allNamedApart {R : Room} {s : State} {args : Array Value} {y0 : MethodName} {c0 : ByteArray} {n0 : Nat} {r0 : Option FieldType} (hts : ∀ w ∈ wsOf y0 c0 n0 r0, w.before args s = true) {fr : Nat} (h1 : fr + 1 ≤ R.frames) (h2 : 8 + (2 + 11) + 60 * fr ≤ R.locals) : CallW R s args RX0 RX2 215 yX2_allNamedApart cX2_allNamedApart 2 (some .boolean) (wsOf yX2_allNamedApart cX2_allNamedApart 2 (some .boolean)) ({ frames := fr, cells := 0, slots := 0, locals := 60 * fr } : Room) 0 0 0 := cwV 0 hts (gd_all (in_V kw_1208 kw_1209 kw_1210 kw_196 kc_X2_allNamedApart)) rfl rfl rfl (by decide +kernel) ⟨h1, h2⟩
set_option maxHeartbeats 4000000 in
set_option maxRecDepth 100000 in
theorem sc_X2_allNamedApart (l : Launch) (dC : Nat → ClassId) (dI : Nat → Nat → Nat) (cB cI cJ cZ cS cO : ClassId) (b : Nat) (K V : Nat → Nat) (fz : Value) (F : Nat) (cs : CS) (x0 : Nat) (r9 : Int32) (hf : c_X2_allNamedApart F cs x0 = some r9) : ocI l dC dI cB cI cJ cZ cS cO b K V fz yX2_allNamedApart (wsOf yX2_allNamedApart cX2_allNamedApart 2 (some .boolean)) (2) [.ref (b + x0)] cs cs r9 := by
  intro sz
  refine Met.ofW (cc := cX2_allNamedApart) (maxL := 2) (ret := (some .boolean)) (by decide) rfl ?_
  intro p e s m args below meth c s₁ B hml hv
  obtain ⟨rfl, hsz, hP, hK, hD0, hZ⟩ := hv
  have hx := B.exec
  have hb := B.bytes
  have hr := B.returns
  have hts := atoms_spec (ws := (wsOf yX2_allNamedApart cX2_allNamedApart 2 (some .boolean))) B.pre
  have hown : s.vm.findClass RX2 = some m.cls := findClass_of_methodNamed B.named
  have hlocks := B.notSynchronized
  subst hsz
  have hD := hD0.self (sz := s.heap.size)
  generalize hAe : va_A (cW cB cI cJ cZ cS cO b cs) s.heap.size = A at hD hZ ⊢
  have hA : ∀ q : Nat, s.heap.size ≤ q → A q := fun q h => by rw [← hAe]; exact Or.inr h
  have hS : va_S A s.heap s.heap [] := va_S.rf
  have hl := lv_entry ([.ref (b + x0)]) (n := 2) (Nat.le_of_ble_eq_true rfl)
  rw [lg_entry_eq]
  generalize (lg_sl ([.ref (b + x0)]) ++ List.replicate (2 - (lg_sl ([.ref (b + x0)])).length) Slot.unset).toArray = ls at hl ⊢
  have hl : lv_has ls 2 [(0, .ref (b + x0))] := hl
  have B_46 : c_X2_allNamedApart_b46 F cs = some r9 → ∀ (H : Heap) (locs : List Loc) (ls : Array Slot), va_P (dC, dI) vwCl (cW cB cI cJ cZ cS cO b cs) H → va_D A (cW cB cI cJ cZ cS cO b cs) → va_S A s.heap H locs → lv_has ls 2 [] → W p l e (headSpec (wsOf yX2_allNamedApart cX2_allNamedApart 2 (some .boolean)) ({ frames := 2, cells := 0, slots := 0, locals := 60 * (2) } : Room)).room s m ([.ref (b + x0)] : List Value).toArray below meth c H locs 0 0 (MQ below (va_Qi (fun (x : Int32) (_ : Unit) => x = r9) (fun _ t_ => va_P (dC, dI) vwCl (cW cB cI cJ cZ cS cO b cs) t_.heap ∧ va_D A (cW cB cI cJ cZ cS cO b cs)) A) ([.ref (b + x0)] : List Value).toArray s 0 0 A) (F0 m 46 ls []) := by
    intro  h H locs ls hP hD hS hl
    unfold c_X2_allNamedApart_b46 at h
    refine lv_iconst (v := 0) hx hb dX2_allNamedApart_46 (by decide) ?_
    have e2 := Option.some.inj h
    exact W.zret (v := 0) hx hb hr (nzN (Or.inl rfl)) (fun t_ ht hW => ⟨⟨0, (), rfl, e2, by rw [ht]; exact hP, hD⟩, hS.F ht⟩) hS.2.2 dX2_allNamedApart_47
  have B_54 : c_X2_allNamedApart_b54 F cs = some r9 → ∀ (H : Heap) (locs : List Loc) (ls : Array Slot), va_P (dC, dI) vwCl (cW cB cI cJ cZ cS cO b cs) H → va_D A (cW cB cI cJ cZ cS cO b cs) → va_S A s.heap H locs → lv_has ls 2 [] → W p l e (headSpec (wsOf yX2_allNamedApart cX2_allNamedApart 2 (some .boolean)) ({ frames := 2, cells := 0, slots := 0, locals := 60 * (2) } : Room)).room s m ([.ref (b + x0)] : List Value).toArray below meth c H locs 0 0 (MQ below (va_Qi (fun (x : Int32) (_ : Unit) => x = r9) (fun _ t_ => va_P (dC, dI) vwCl (cW cB cI cJ cZ cS cO b cs) t_.heap ∧ va_D A (cW cB cI cJ cZ cS cO b cs)) A) ([.ref (b + x0)] : List Value).toArray s 0 0 A) (F0 m 54 ls []) := by
    intro  h H locs ls hP hD hS hl
    unfold c_X2_allNamedApart_b54 at h
    refine lv_iconst (v := 1) hx hb dX2_allNamedApart_54 (by decide) ?_
    have e2 := Option.some.inj h
    exact W.zret (v := 1) hx hb hr (nzN (Or.inr rfl)) (fun t_ ht hW => ⟨⟨1, (), rfl, e2, by rw [ht]; exact hP, hD⟩, hS.F ht⟩) hS.2.2 dX2_allNamedApart_55
  have L_2 : ∀ (lf_2 : Nat), ∀ (u0 : Nat) (u1 : Int32), c_X2_allNamedApart_L2 F cs lf_2 u0 u1 = some r9 → ∀ (H : Heap) (locs : List Loc) (ls : Array Slot), va_P (dC, dI) vwCl (cW cB cI cJ cZ cS cO b cs) H → va_D A (cW cB cI cJ cZ cS cO b cs) → va_S A s.heap H locs → lv_has ls 2 [(0, .ref (b + u0)), (1, .int u1)] → W p l e (headSpec (wsOf yX2_allNamedApart cX2_allNamedApart 2 (some .boolean)) ({ frames := 2, cells := 0, slots := 0, locals := 60 * (2) } : Room)).room s m ([.ref (b + x0)] : List Value).toArray below meth c H locs 0 0 (MQ below (va_Qi (fun (x : Int32) (_ : Unit) => x = r9) (fun _ t_ => va_P (dC, dI) vwCl (cW cB cI cJ cZ cS cO b cs) t_.heap ∧ va_D A (cW cB cI cJ cZ cS cO b cs)) A) ([.ref (b + x0)] : List Value).toArray s 0 0 A) (F0 m 2 ls []) := by
    intro lf_2
    induction lf_2 with
    | zero => intro u0 u1 h; cases (show (none : Option Int32) = _ from h)
    | succ lf_2 ih_2 =>
      intro u0 u1 h H locs ls hP hD hS hl
      rw [c_X2_allNamedApart_L2] at h
      refine lv_iload_n hx hb dX2_allNamedApart_2 rfl (lv_at hl 1 rfl) ?_
      refine lv_aload_n hx hb dX2_allNamedApart_3 rfl (lv_at hl 0 rfl) ?_
      replace h := ob h; obtain ⟨v_1, hv_1, h⟩ := h
      refine fg_X2_25 hx hb hts hown hK hP hv_1 dX2_allNamedApart_4 ?_
      refine lv_icmp_ge (tgt := 54) hx hb dX2_allNamedApart_7 (by decide) (fun c_2 => ?_) (fun c_2 => ?_)
      · skip
        replace h := (if_pos c_2).symm.trans h
        exact B_54  h _ _ _ hP hD hS (lv_sub hl [] rfl)
      · skip
        replace h := (if_neg c_2).symm.trans h
        refine lv_iload_n hx hb dX2_allNamedApart_10 rfl (lv_at hl 1 rfl) ?_
        refine lv_bipush (v := 8) hx hb dX2_allNamedApart_11 (by decide) ?_
        refine lv_icmp_ge (tgt := 54) hx hb dX2_allNamedApart_13 (by decide) (fun c_3 => ?_) (fun c_3 => ?_)
        · skip
          replace h := (if_pos c_3).symm.trans h
          exact B_54  h _ _ _ hP hD hS (lv_sub hl [] rfl)
        · skip
          replace h := (if_neg c_3).symm.trans h
          refine lv_aload_n hx hb dX2_allNamedApart_16 rfl (lv_at hl 0 rfl) ?_
          replace h := ob h; obtain ⟨v_4, hv_4, h⟩ := h
          refine fg_X2_15 hx hb hts hown hK hP hv_4 dX2_allNamedApart_17 ?_
          refine lv_iload_n hx hb dX2_allNamedApart_20 rfl (lv_at hl 1 rfl) ?_
          replace h := ob h; obtain ⟨v_5, hv_5, h⟩ := h
          refine ald2 hx hb hK hP rfl hv_5 dX2_allNamedApart_21 ?_
          refine lv_ldc2 hx hb hown (hts _ (List.mem_cons_of_mem _ kw_1212)) dX2_allNamedApart_22 ?_
          refine W.lcmp hx hb dX2_allNamedApart_25 ?_
          refine lv_if_eq (tgt := 46) hx hb dX2_allNamedApart_26 (by decide) (fun c_6 => ?_) (fun c_6 => ?_)
          · skip
            have c_6 : v_5 = (-1) := (lg_cmp_eq _ _).mp c_6
            replace h := (if_pos c_6).symm.trans h
            exact B_46  h _ _ _ hP hD hS (lv_sub hl [] rfl)
          · skip
            have c_6 : ¬ (v_5 = (-1)) := fun h9 => c_6 ((lg_cmp_eq _ _).mpr h9)
            replace h := (if_neg c_6).symm.trans h
            refine lv_aload_n hx hb dX2_allNamedApart_29 rfl (lv_at hl 0 rfl) ?_
            refine lv_aload_n hx hb dX2_allNamedApart_30 rfl (lv_at hl 0 rfl) ?_
            replace h := ob h; obtain ⟨v_7, hv_7, h⟩ := h
            refine fg_X2_15 hx hb hts hown hK hP hv_7 dX2_allNamedApart_31 ?_
            refine lv_iload_n hx hb dX2_allNamedApart_34 rfl (lv_at hl 1 rfl) ?_
            replace h := ob h; obtain ⟨v_8, hv_8, h⟩ := h
            refine ald2 hx hb hK hP rfl hv_8 dX2_allNamedApart_35 ?_
            refine lv_iload_n hx hb dX2_allNamedApart_36 rfl (lv_at hl 1 rfl) ?_
            refine lv_iconst (v := 1) hx hb dX2_allNamedApart_37 (by decide) ?_
            refine lv_iadd hx hb dX2_allNamedApart_38 ?_
            replace h := ob h; obtain ⟨w_10, hw_10, h⟩ := h
            replace h := ob h; obtain ⟨v_9, hv_9, h⟩ := h
            refine ccI (As := [.long v_8, .int (u1 + 1)]) hx hb hml hts hown hK hP hD hS hA hZ (X := 3) (by decide) rfl (ckE_some hw_10) (sc_X2_find l dC dI cB cI cJ cZ cS cO b K V fz F cs u0 v_8 (u1 + 1) v_9 hv_9) (cw_X2_X2_find hts (fr := 1) (Nat.le_of_ble_eq_true rfl) (Nat.le_of_ble_eq_true rfl)) rfl hl.1 (Nat.le_of_ble_eq_true rfl) ⟨Nat.zero_le _, Nat.zero_le _⟩ dX2_allNamedApart_39 (fun H locs hP hD hS => ?_)
            refine lv_iconst (v := (-1)) hx hb dX2_allNamedApart_42 (by decide) ?_
            refine lv_icmp_eq (tgt := 48) hx hb dX2_allNamedApart_43 (by decide) (fun c_11 => ?_) (fun c_11 => ?_)
            · skip
              replace h := (if_pos c_11).symm.trans h
              refine lv_iinc (v := u1 + 1) (lv' := [(1, .int (u1 + 1)), (0, .ref (b + u0))]) hx hb dX2_allNamedApart_48 hl (k := 1) rfl rfl (by decide) rfl (fun ls hl => ?_)
              refine lv_goto (tgt := 2) hx hb dX2_allNamedApart_51 (by decide) ?_
              exact ih_2 u0 (u1 + 1) h _ _ _ hP hD hS (lv_sub hl [1, 0] rfl)
            · skip
              replace h := (if_neg c_11).symm.trans h
              exact B_46  h _ _ _ hP hD hS (lv_sub hl [] rfl)
  have h := hf
  unfold c_X2_allNamedApart at h
  refine lv_iconst (v := 0) hx hb dX2_allNamedApart_0 (by decide) ?_
  refine lv_istore_n (lv' := [(1, .int 0), (0, .ref (b + x0))]) hx hb dX2_allNamedApart_1 rfl hl (by decide) rfl (fun ls hl => ?_)
  exact L_2 F x0 0 h _ _ _ hP hD hS (lv_sub hl [1, 0] rfl)
theorem dX2_has_0 : decode cX2_has 0 = .ok (.iload_n 1, 1) := by decide +kernel
theorem dX2_has_1 : decode cX2_has 1 = .ok (.ifCond .lt 21, 3) := by decide +kernel
theorem dX2_has_4 : decode cX2_has 4 = .ok (.iload_n 1, 1) := by decide +kernel
theorem dX2_has_5 : decode cX2_has 5 = .ok (.aload_n 0, 1) := by decide +kernel
theorem dX2_has_6 : decode cX2_has 6 = .ok (.getfield 25, 3) := by decide +kernel
theorem dX2_has_9 : decode cX2_has 9 = .ok (.if_icmp .ge 13, 3) := by decide +kernel
theorem dX2_has_12 : decode cX2_has 12 = .ok (.iload_n 1, 1) := by decide +kernel
theorem dX2_has_13 : decode cX2_has 13 = .ok (.bipush 8, 2) := by decide +kernel
theorem dX2_has_15 : decode cX2_has 15 = .ok (.if_icmp .ge 7, 3) := by decide +kernel
theorem dX2_has_18 : decode cX2_has 18 = .ok (.iconst 1, 1) := by decide +kernel
theorem dX2_has_19 : decode cX2_has 19 = .ok (.goto 4, 3) := by decide +kernel
theorem dX2_has_22 : decode cX2_has 22 = .ok (.iconst 0, 1) := by decide +kernel
theorem dX2_has_23 : decode cX2_has 23 = .ok (.ireturn, 1) := by decide +kernel
def c_X2_has_b23 (F : Nat) (cs : CS) (y0 : Int32) : Option Int32 := Option.bind (ckZ y0) fun _ => some y0
def c_X2_has_b22 (F : Nat) (cs : CS) : Option Int32 := c_X2_has_b23 F cs 0
def c_X2_has (F : Nat) (cs : CS) (x0 : Nat) (x1 : Int32) : Option Int32 := if x1 < 0 then (c_X2_has_b22 F cs ) else (Option.bind (gI cs 3 96 x0) fun v_3 => if v_3 ≤ x1 then (c_X2_has_b22 F cs ) else (if 8 ≤ x1 then (c_X2_has_b22 F cs ) else (c_X2_has_b23 F cs 1)))
theorem cw_X0_X2_has {R : Room} {s : State} {args : Array Value} {y0 : MethodName} {c0 : ByteArray} {n0 : Nat} {r0 : Option FieldType} (hts : ∀ w ∈ wsOf y0 c0 n0 r0, w.before args s = true) {fr : Nat} (h1 : fr + 1 ≤ R.frames) (h2 : 8 + (2 + 11) + 60 * fr ≤ R.locals) : CallW R s args RX0 RX2 221 yX2_has cX2_has 2 (some .boolean) (wsOf yX2_has cX2_has 2 (some .boolean)) ({ frames := fr, cells := 0, slots := 0, locals := 60 * fr } : Room) 0 0 1 := cwV 1 hts (gd_all (in_V kw_1219 kw_1220 kw_1221 kw_196 kc_X2_has)) rfl rfl rfl (by decide +kernel) ⟨h1, h2⟩
theorem cw_X2_X2_has {R : Room} {s : State} {args : Array Value} {y0 : MethodName} {c0 : ByteArray} {n0 : Nat} {r0 : Option FieldType} (hts : ∀ w ∈ wsOf y0 c0 n0 r0, w.before args s = true) {fr : Nat} (h1 : fr + 1 ≤ R.frames) (h2 : 8 + (2 + 11) + 60 * fr ≤ R.locals) : CallW R s args RX2 RX2 45 yX2_has cX2_has 2 (some .boolean) (wsOf yX2_has cX2_has 2 (some .boolean)) ({ frames := fr, cells := 0, slots := 0, locals := 60 * fr } : Room) 0 0 1 := cwV 1 hts (gd_all (in_V kw_1288 kw_1220 kw_1221 kw_196 kc_X2_has)) rfl rfl rfl (by decide +kernel) ⟨h1, h2⟩
theorem cw_X4_X2_has {R : Room} {s : State} {args : Array Value} {y0 : MethodName} {c0 : ByteArray} {n0 : Nat} {r0 : Option FieldType} (hts : ∀ w ∈ wsOf y0 c0 n0 r0, w.before args s = true) {fr : Nat} (h1 : fr + 1 ≤ R.frames) (h2 : 8 + (2 + 11) + 60 * fr ≤ R.locals) : CallW R s args RX4 RX2 106 yX2_has cX2_has 2 (some .boolean) (wsOf yX2_has cX2_has 2 (some .boolean)) ({ frames := fr, cells := 0, slots := 0, locals := 60 * fr } : Room) 0 0 1 := cwV 1 hts (gd_all (in_V kw_1474 kw_1220 kw_1221 kw_196 kc_X2_has)) rfl rfl rfl (by decide +kernel) ⟨h1, h2⟩
theorem cw_X9_X2_has {R : Room} {s : State} {args : Array Value} {y0 : MethodName} {c0 : ByteArray} {n0 : Nat} {r0 : Option FieldType} (hts : ∀ w ∈ wsOf y0 c0 n0 r0, w.before args s = true) {fr : Nat} (h1 : fr + 1 ≤ R.frames) (h2 : 8 + (2 + 11) + 60 * fr ≤ R.locals) : CallW R s args RX9 RX2 67 yX2_has cX2_has 2 (some .boolean) (wsOf yX2_has cX2_has 2 (some .boolean)) ({ frames := fr, cells := 0, slots := 0, locals := 60 * fr } : Room) 0 0 1 := cwV 1 hts (gd_all (in_V kw_1662 kw_1220 kw_1221 kw_196 kc_X2_has)) rfl rfl rfl (by decide +kernel) ⟨h1, h2⟩
set_option maxHeartbeats 4000000 in
set_option maxRecDepth 100000 in
theorem sc_X2_has (l : Launch) (dC : Nat → ClassId) (dI : Nat → Nat → Nat) (cB cI cJ cZ cS cO : ClassId) (b : Nat) (K V : Nat → Nat) (fz : Value) (F : Nat) (cs : CS) (x0 : Nat) (x1 : Int32) (r9 : Int32) (hf : c_X2_has F cs x0 x1 = some r9) : ocI l dC dI cB cI cJ cZ cS cO b K V fz yX2_has (wsOf yX2_has cX2_has 2 (some .boolean)) (0) [.ref (b + x0), .int x1] cs cs r9 := by
  intro sz
  refine Met.ofW (cc := cX2_has) (maxL := 2) (ret := (some .boolean)) (by decide) rfl ?_
  intro p e s m args below meth c s₁ B hml hv
  obtain ⟨rfl, hsz, hP, hK, hD0, hZ⟩ := hv
  have hx := B.exec
  have hb := B.bytes
  have hr := B.returns
  have hts := atoms_spec (ws := (wsOf yX2_has cX2_has 2 (some .boolean))) B.pre
  have hown : s.vm.findClass RX2 = some m.cls := findClass_of_methodNamed B.named
  have hlocks := B.notSynchronized
  subst hsz
  have hD := hD0.self (sz := s.heap.size)
  generalize hAe : va_A (cW cB cI cJ cZ cS cO b cs) s.heap.size = A at hD hZ ⊢
  have hA : ∀ q : Nat, s.heap.size ≤ q → A q := fun q h => by rw [← hAe]; exact Or.inr h
  have hS : va_S A s.heap s.heap [] := va_S.rf
  have hl := lv_entry ([.ref (b + x0), .int x1]) (n := 2) (Nat.le_of_ble_eq_true rfl)
  rw [lg_entry_eq]
  generalize (lg_sl ([.ref (b + x0), .int x1]) ++ List.replicate (2 - (lg_sl ([.ref (b + x0), .int x1])).length) Slot.unset).toArray = ls at hl ⊢
  have hl : lv_has ls 2 [(0, .ref (b + x0)), (1, .int x1)] := hl
  have B_23 : ∀ (y0 : Int32), c_X2_has_b23 F cs y0 = some r9 → ∀ (H : Heap) (locs : List Loc) (ls : Array Slot), va_P (dC, dI) vwCl (cW cB cI cJ cZ cS cO b cs) H → va_D A (cW cB cI cJ cZ cS cO b cs) → va_S A s.heap H locs → lv_has ls 2 [] → W p l e (headSpec (wsOf yX2_has cX2_has 2 (some .boolean)) ({ frames := 0, cells := 0, slots := 0, locals := 60 * (0) } : Room)).room s m ([.ref (b + x0), .int x1] : List Value).toArray below meth c H locs 0 0 (MQ below (va_Qi (fun (x : Int32) (_ : Unit) => x = r9) (fun _ t_ => va_P (dC, dI) vwCl (cW cB cI cJ cZ cS cO b cs) t_.heap ∧ va_D A (cW cB cI cJ cZ cS cO b cs)) A) ([.ref (b + x0), .int x1] : List Value).toArray s 0 0 A) (F0 m 23 ls [.int y0]) := by
    intro y0 h H locs ls hP hD hS hl
    unfold c_X2_has_b23 at h
    replace h := ob h; obtain ⟨w_1, hw_1, h⟩ := h
    have e2 := Option.some.inj h
    exact W.zret (v := y0) hx hb hr (nzN (ckZ_some hw_1)) (fun t_ ht hW => ⟨⟨y0, (), rfl, e2, by rw [ht]; exact hP, hD⟩, hS.F ht⟩) hS.2.2 dX2_has_23
  have B_22 : c_X2_has_b22 F cs = some r9 → ∀ (H : Heap) (locs : List Loc) (ls : Array Slot), va_P (dC, dI) vwCl (cW cB cI cJ cZ cS cO b cs) H → va_D A (cW cB cI cJ cZ cS cO b cs) → va_S A s.heap H locs → lv_has ls 2 [] → W p l e (headSpec (wsOf yX2_has cX2_has 2 (some .boolean)) ({ frames := 0, cells := 0, slots := 0, locals := 60 * (0) } : Room)).room s m ([.ref (b + x0), .int x1] : List Value).toArray below meth c H locs 0 0 (MQ below (va_Qi (fun (x : Int32) (_ : Unit) => x = r9) (fun _ t_ => va_P (dC, dI) vwCl (cW cB cI cJ cZ cS cO b cs) t_.heap ∧ va_D A (cW cB cI cJ cZ cS cO b cs)) A) ([.ref (b + x0), .int x1] : List Value).toArray s 0 0 A) (F0 m 22 ls []) := by
    intro  h H locs ls hP hD hS hl
    unfold c_X2_has_b22 at h
    refine lv_iconst (v := 0) hx hb dX2_has_22 (by decide) ?_
    exact B_23 0 h _ _ _ hP hD hS (lv_sub hl [] rfl)
  have h := hf
  unfold c_X2_has at h
  refine lv_iload_n hx hb dX2_has_0 rfl (lv_at hl 1 rfl) ?_
  refine lv_if_lt (tgt := 22) hx hb dX2_has_1 (by decide) (fun c_2 => ?_) (fun c_2 => ?_)
  · skip
    replace h := (if_pos c_2).symm.trans h
    exact B_22  h _ _ _ hP hD hS (lv_sub hl [] rfl)
  · skip
    replace h := (if_neg c_2).symm.trans h
    refine lv_iload_n hx hb dX2_has_4 rfl (lv_at hl 1 rfl) ?_
    refine lv_aload_n hx hb dX2_has_5 rfl (lv_at hl 0 rfl) ?_
    replace h := ob h; obtain ⟨v_3, hv_3, h⟩ := h
    refine fg_X2_25 hx hb hts hown hK hP hv_3 dX2_has_6 ?_
    refine lv_icmp_ge (tgt := 22) hx hb dX2_has_9 (by decide) (fun c_4 => ?_) (fun c_4 => ?_)
    · skip
      replace h := (if_pos c_4).symm.trans h
      exact B_22  h _ _ _ hP hD hS (lv_sub hl [] rfl)
    · skip
      replace h := (if_neg c_4).symm.trans h
      refine lv_iload_n hx hb dX2_has_12 rfl (lv_at hl 1 rfl) ?_
      refine lv_bipush (v := 8) hx hb dX2_has_13 (by decide) ?_
      refine lv_icmp_ge (tgt := 22) hx hb dX2_has_15 (by decide) (fun c_5 => ?_) (fun c_5 => ?_)
      · skip
        replace h := (if_pos c_5).symm.trans h
        exact B_22  h _ _ _ hP hD hS (lv_sub hl [] rfl)
      · skip
        replace h := (if_neg c_5).symm.trans h
        refine lv_iconst (v := 1) hx hb dX2_has_18 (by decide) ?_
        refine lv_goto (tgt := 23) hx hb dX2_has_19 (by decide) ?_
        exact B_23 1 h _ _ _ hP hD hS (lv_sub hl [] rfl)
theorem dX2_isFull_0 : decode cX2_isFull 0 = .ok (.aload_n 0, 1) := by decide +kernel
theorem dX2_isFull_1 : decode cX2_isFull 1 = .ok (.getfield 25, 3) := by decide +kernel
theorem dX2_isFull_4 : decode cX2_isFull 4 = .ok (.bipush 8, 2) := by decide +kernel
theorem dX2_isFull_6 : decode cX2_isFull 6 = .ok (.if_icmp .lt 7, 3) := by decide +kernel
theorem dX2_isFull_9 : decode cX2_isFull 9 = .ok (.iconst 1, 1) := by decide +kernel
theorem dX2_isFull_10 : decode cX2_isFull 10 = .ok (.goto 4, 3) := by decide +kernel
theorem dX2_isFull_13 : decode cX2_isFull 13 = .ok (.iconst 0, 1) := by decide +kernel
theorem dX2_isFull_14 : decode cX2_isFull 14 = .ok (.ireturn, 1) := by decide +kernel
def c_X2_isFull_b14 (F : Nat) (cs : CS) (y0 : Int32) : Option Int32 := Option.bind (ckZ y0) fun _ => some y0
def c_X2_isFull (F : Nat) (cs : CS) (x0 : Nat) : Option Int32 := Option.bind (gI cs 3 96 x0) fun v_2 => if v_2 < 8 then (c_X2_isFull_b14 F cs 0) else (c_X2_isFull_b14 F cs 1)
theorem cw_X2_X2_isFull {R : Room} {s : State} {args : Array Value} {y0 : MethodName} {c0 : ByteArray} {n0 : Nat} {r0 : Option FieldType} (hts : ∀ w ∈ wsOf y0 c0 n0 r0, w.before args s = true) {fr : Nat} (h1 : fr + 1 ≤ R.frames) (h2 : 8 + (1 + 11) + 60 * fr ≤ R.locals) : CallW R s args RX2 RX2 29 yX2_isFull cX2_isFull 1 (some .boolean) (wsOf yX2_isFull cX2_isFull 1 (some .boolean)) ({ frames := fr, cells := 0, slots := 0, locals := 60 * fr } : Room) 0 0 0 := cwV 0 hts (gd_all (in_V kw_1037 kw_936 kw_937 kw_196 kc_X2_isFull)) rfl rfl rfl (by decide +kernel) ⟨h1, h2⟩
theorem cw_X9_X2_isFull {R : Room} {s : State} {args : Array Value} {y0 : MethodName} {c0 : ByteArray} {n0 : Nat} {r0 : Option FieldType} (hts : ∀ w ∈ wsOf y0 c0 n0 r0, w.before args s = true) {fr : Nat} (h1 : fr + 1 ≤ R.frames) (h2 : 8 + (1 + 11) + 60 * fr ≤ R.locals) : CallW R s args RX9 RX2 166 yX2_isFull cX2_isFull 1 (some .boolean) (wsOf yX2_isFull cX2_isFull 1 (some .boolean)) ({ frames := fr, cells := 0, slots := 0, locals := 60 * fr } : Room) 0 0 0 := cwV 0 hts (gd_all (in_V kw_935 kw_936 kw_937 kw_196 kc_X2_isFull)) rfl rfl rfl (by decide +kernel) ⟨h1, h2⟩
set_option maxHeartbeats 4000000 in
set_option maxRecDepth 100000 in
theorem sc_X2_isFull (l : Launch) (dC : Nat → ClassId) (dI : Nat → Nat → Nat) (cB cI cJ cZ cS cO : ClassId) (b : Nat) (K V : Nat → Nat) (fz : Value) (F : Nat) (cs : CS) (x0 : Nat) (r9 : Int32) (hf : c_X2_isFull F cs x0 = some r9) : ocI l dC dI cB cI cJ cZ cS cO b K V fz yX2_isFull (wsOf yX2_isFull cX2_isFull 1 (some .boolean)) (0) [.ref (b + x0)] cs cs r9 := by
  intro sz
  refine Met.ofW (cc := cX2_isFull) (maxL := 1) (ret := (some .boolean)) (by decide) rfl ?_
  intro p e s m args below meth c s₁ B hml hv
  obtain ⟨rfl, hsz, hP, hK, hD0, hZ⟩ := hv
  have hx := B.exec
  have hb := B.bytes
  have hr := B.returns
  have hts := atoms_spec (ws := (wsOf yX2_isFull cX2_isFull 1 (some .boolean))) B.pre
  have hown : s.vm.findClass RX2 = some m.cls := findClass_of_methodNamed B.named
  have hlocks := B.notSynchronized
  subst hsz
  have hD := hD0.self (sz := s.heap.size)
  generalize hAe : va_A (cW cB cI cJ cZ cS cO b cs) s.heap.size = A at hD hZ ⊢
  have hA : ∀ q : Nat, s.heap.size ≤ q → A q := fun q h => by rw [← hAe]; exact Or.inr h
  have hS : va_S A s.heap s.heap [] := va_S.rf
  have hl := lv_entry ([.ref (b + x0)]) (n := 1) (Nat.le_of_ble_eq_true rfl)
  rw [lg_entry_eq]
  generalize (lg_sl ([.ref (b + x0)]) ++ List.replicate (1 - (lg_sl ([.ref (b + x0)])).length) Slot.unset).toArray = ls at hl ⊢
  have hl : lv_has ls 1 [(0, .ref (b + x0))] := hl
  have B_14 : ∀ (y0 : Int32), c_X2_isFull_b14 F cs y0 = some r9 → ∀ (H : Heap) (locs : List Loc) (ls : Array Slot), va_P (dC, dI) vwCl (cW cB cI cJ cZ cS cO b cs) H → va_D A (cW cB cI cJ cZ cS cO b cs) → va_S A s.heap H locs → lv_has ls 1 [] → W p l e (headSpec (wsOf yX2_isFull cX2_isFull 1 (some .boolean)) ({ frames := 0, cells := 0, slots := 0, locals := 60 * (0) } : Room)).room s m ([.ref (b + x0)] : List Value).toArray below meth c H locs 0 0 (MQ below (va_Qi (fun (x : Int32) (_ : Unit) => x = r9) (fun _ t_ => va_P (dC, dI) vwCl (cW cB cI cJ cZ cS cO b cs) t_.heap ∧ va_D A (cW cB cI cJ cZ cS cO b cs)) A) ([.ref (b + x0)] : List Value).toArray s 0 0 A) (F0 m 14 ls [.int y0]) := by
    intro y0 h H locs ls hP hD hS hl
    unfold c_X2_isFull_b14 at h
    replace h := ob h; obtain ⟨w_1, hw_1, h⟩ := h
    have e2 := Option.some.inj h
    exact W.zret (v := y0) hx hb hr (nzN (ckZ_some hw_1)) (fun t_ ht hW => ⟨⟨y0, (), rfl, e2, by rw [ht]; exact hP, hD⟩, hS.F ht⟩) hS.2.2 dX2_isFull_14
  have h := hf
  unfold c_X2_isFull at h
  refine lv_aload_n hx hb dX2_isFull_0 rfl (lv_at hl 0 rfl) ?_
  replace h := ob h; obtain ⟨v_2, hv_2, h⟩ := h
  refine fg_X2_25 hx hb hts hown hK hP hv_2 dX2_isFull_1 ?_
  refine lv_bipush (v := 8) hx hb dX2_isFull_4 (by decide) ?_
  refine lv_icmp_lt (tgt := 13) hx hb dX2_isFull_6 (by decide) (fun c_3 => ?_) (fun c_3 => ?_)
  · skip
    replace h := (if_pos c_3).symm.trans h
    refine lv_iconst (v := 0) hx hb dX2_isFull_13 (by decide) ?_
    exact B_14 0 h _ _ _ hP hD hS (lv_sub hl [] rfl)
  · skip
    replace h := (if_neg c_3).symm.trans h
    refine lv_iconst (v := 1) hx hb dX2_isFull_9 (by decide) ?_
    refine lv_goto (tgt := 14) hx hb dX2_isFull_10 (by decide) ?_
    exact B_14 1 h _ _ _ hP hD hS (lv_sub hl [] rfl)
theorem dX2_add_0 : decode cX2_add 0 = .ok (.aload_n 0, 1) := by decide +kernel
theorem dX2_add_1 : decode cX2_add 1 = .ok (.invokevirtual 29, 3) := by decide +kernel
theorem dX2_add_4 : decode cX2_add 4 = .ok (.ifCond .eq 4, 3) := by decide +kernel
theorem dX2_add_7 : decode cX2_add 7 = .ok (.return_, 1) := by decide +kernel
theorem dX2_add_8 : decode cX2_add 8 = .ok (.aload_n 0, 1) := by decide +kernel
theorem dX2_add_9 : decode cX2_add 9 = .ok (.getfield 9, 3) := by decide +kernel
theorem dX2_add_12 : decode cX2_add 12 = .ok (.aload_n 0, 1) := by decide +kernel
theorem dX2_add_13 : decode cX2_add 13 = .ok (.getfield 25, 3) := by decide +kernel
theorem dX2_add_16 : decode cX2_add 16 = .ok (.iload_n 1, 1) := by decide +kernel
theorem dX2_add_17 : decode cX2_add 17 = .ok (.iastore, 1) := by decide +kernel
theorem dX2_add_18 : decode cX2_add 18 = .ok (.aload_n 0, 1) := by decide +kernel
theorem dX2_add_19 : decode cX2_add 19 = .ok (.getfield 15, 3) := by decide +kernel
theorem dX2_add_22 : decode cX2_add 22 = .ok (.aload_n 0, 1) := by decide +kernel
theorem dX2_add_23 : decode cX2_add 23 = .ok (.getfield 25, 3) := by decide +kernel
theorem dX2_add_26 : decode cX2_add 26 = .ok (.lload_n 2, 1) := by decide +kernel
theorem dX2_add_27 : decode cX2_add 27 = .ok (.lastore, 1) := by decide +kernel
theorem dX2_add_28 : decode cX2_add 28 = .ok (.aload_n 0, 1) := by decide +kernel
theorem dX2_add_29 : decode cX2_add 29 = .ok (.getfield 19, 3) := by decide +kernel
theorem dX2_add_32 : decode cX2_add 32 = .ok (.aload_n 0, 1) := by decide +kernel
theorem dX2_add_33 : decode cX2_add 33 = .ok (.getfield 25, 3) := by decide +kernel
theorem dX2_add_36 : decode cX2_add 36 = .ok (.iload 4, 2) := by decide +kernel
theorem dX2_add_38 : decode cX2_add 38 = .ok (.iastore, 1) := by decide +kernel
theorem dX2_add_39 : decode cX2_add 39 = .ok (.aload_n 0, 1) := by decide +kernel
theorem dX2_add_40 : decode cX2_add 40 = .ok (.getfield 22, 3) := by decide +kernel
theorem dX2_add_43 : decode cX2_add 43 = .ok (.aload_n 0, 1) := by decide +kernel
theorem dX2_add_44 : decode cX2_add 44 = .ok (.getfield 25, 3) := by decide +kernel
theorem dX2_add_47 : decode cX2_add 47 = .ok (.iload 5, 2) := by decide +kernel
theorem dX2_add_49 : decode cX2_add 49 = .ok (.iastore, 1) := by decide +kernel
theorem dX2_add_50 : decode cX2_add 50 = .ok (.aload_n 0, 1) := by decide +kernel
theorem dX2_add_51 : decode cX2_add 51 = .ok (.dup, 1) := by decide +kernel
theorem dX2_add_52 : decode cX2_add 52 = .ok (.getfield 25, 3) := by decide +kernel
theorem dX2_add_55 : decode cX2_add 55 = .ok (.iconst 1, 1) := by decide +kernel
theorem dX2_add_56 : decode cX2_add 56 = .ok (.iadd, 1) := by decide +kernel
theorem dX2_add_57 : decode cX2_add 57 = .ok (.putfield 25, 3) := by decide +kernel
theorem dX2_add_60 : decode cX2_add 60 = .ok (.return_, 1) := by decide +kernel
def c_X2_add (F : Nat) (cs : CS) (x0 : Nat) (x1 : Int32) (x2 : Int64) (x4 : Int32) (x5 : Int32) : Option CS := Option.bind (ckE cs 3 x0) fun _ => Option.bind (c_X2_isFull F cs x0) fun v_1 => if v_1 = 0 then (Option.bind (gA cs 3 97 x0) fun v_4 => Option.bind (gI cs 3 96 x0) fun v_5 => Option.bind (wA cs 97 x0 v_4 v_5 x1) fun cs_6 => Option.bind (gA cs_6 3 98 x0) fun v_7 => Option.bind (gI cs_6 3 96 x0) fun v_8 => Option.bind (wB cs_6 98 x0 v_7 v_8 x2) fun cs_9 => Option.bind (gA cs_9 3 99 x0) fun v_10 => Option.bind (gI cs_9 3 96 x0) fun v_11 => Option.bind (wA cs_9 99 x0 v_10 v_11 x4) fun cs_12 => Option.bind (gA cs_12 3 100 x0) fun v_13 => Option.bind (gI cs_12 3 96 x0) fun v_14 => Option.bind (wA cs_12 100 x0 v_13 v_14 x5) fun cs_15 => Option.bind (gI cs_15 3 96 x0) fun v_16 => Option.bind (pI cs_15 3 96 x0 (v_16 + 1)) fun cs_17 => some cs_17) else (some cs)
theorem cw_X0_X2_add {R : Room} {s : State} {args : Array Value} {y0 : MethodName} {c0 : ByteArray} {n0 : Nat} {r0 : Option FieldType} (hts : ∀ w ∈ wsOf y0 c0 n0 r0, w.before args s = true) {fr : Nat} (h1 : fr + 1 ≤ R.frames) (h2 : 8 + (6 + 11) + 60 * fr ≤ R.locals) : CallW R s args RX0 RX2 207 yX2_add cX2_add 6 none (wsOf yX2_add cX2_add 6 none) ({ frames := fr, cells := 0, slots := 0, locals := 60 * fr } : Room) 0 0 4 := cwV 4 hts (gd_all (in_V kw_1223 kw_1034 kw_1035 kw_196 kc_X2_add)) rfl rfl rfl (by decide +kernel) ⟨h1, h2⟩
theorem cw_X9_X2_add {R : Room} {s : State} {args : Array Value} {y0 : MethodName} {c0 : ByteArray} {n0 : Nat} {r0 : Option FieldType} (hts : ∀ w ∈ wsOf y0 c0 n0 r0, w.before args s = true) {fr : Nat} (h1 : fr + 1 ≤ R.frames) (h2 : 8 + (6 + 11) + 60 * fr ≤ R.locals) : CallW R s args RX9 RX2 179 yX2_add cX2_add 6 none (wsOf yX2_add cX2_add 6 none) ({ frames := fr, cells := 0, slots := 0, locals := 60 * fr } : Room) 0 0 4 := cwV 4 hts (gd_all (in_V kw_1033 kw_1034 kw_1035 kw_196 kc_X2_add)) rfl rfl rfl (by decide +kernel) ⟨h1, h2⟩
set_option maxHeartbeats 4000000 in
set_option maxRecDepth 100000 in
theorem sc_X2_add (l : Launch) (dC : Nat → ClassId) (dI : Nat → Nat → Nat) (cB cI cJ cZ cS cO : ClassId) (b : Nat) (K V : Nat → Nat) (fz : Value) (F : Nat) (cs : CS) (x0 : Nat) (x1 : Int32) (x2 : Int64) (x4 : Int32) (x5 : Int32) (cs9 : CS) (hf : c_X2_add F cs x0 x1 x2 x4 x5 = some cs9) : ocV l dC dI cB cI cJ cZ cS cO b K V fz yX2_add (wsOf yX2_add cX2_add 6 none) (1) [.ref (b + x0), .int x1, .long x2, .int x4, .int x5] cs cs9 := by
  intro sz
  refine Met.ofW (cc := cX2_add) (maxL := 6) (ret := none) (by decide) rfl ?_
  intro p e s m args below meth c s₁ B hml hv
  obtain ⟨rfl, hsz, hP, hK, hD0, hZ⟩ := hv
  have hx := B.exec
  have hb := B.bytes
  have hr := B.returns
  have hts := atoms_spec (ws := (wsOf yX2_add cX2_add 6 none)) B.pre
  have hown : s.vm.findClass RX2 = some m.cls := findClass_of_methodNamed B.named
  have hlocks := B.notSynchronized
  subst hsz
  have hD := hD0.self (sz := s.heap.size)
  generalize hAe : va_A (cW cB cI cJ cZ cS cO b cs) s.heap.size = A at hD hZ ⊢
  have hA : ∀ q : Nat, s.heap.size ≤ q → A q := fun q h => by rw [← hAe]; exact Or.inr h
  have hS : va_S A s.heap s.heap [] := va_S.rf
  have hl := lv_entry ([.ref (b + x0), .int x1, .long x2, .int x4, .int x5]) (n := 6) (Nat.le_of_ble_eq_true rfl)
  rw [lg_entry_eq]
  generalize (lg_sl ([.ref (b + x0), .int x1, .long x2, .int x4, .int x5]) ++ List.replicate (6 - (lg_sl ([.ref (b + x0), .int x1, .long x2, .int x4, .int x5])).length) Slot.unset).toArray = ls at hl ⊢
  have hl : lv_has ls 6 [(0, .ref (b + x0)), (1, .int x1), (2, .long x2), (4, .int x4), (5, .int x5)] := hl
  have h := hf
  unfold c_X2_add at h
  refine lv_aload_n hx hb dX2_add_0 rfl (lv_at hl 0 rfl) ?_
  replace h := ob h; obtain ⟨w_2, hw_2, h⟩ := h
  replace h := ob h; obtain ⟨v_1, hv_1, h⟩ := h
  refine ccI (As := []) hx hb hml hts hown hK hP hD hS hA hZ (X := 3) (by decide) rfl (ckE_some hw_2) (sc_X2_isFull l dC dI cB cI cJ cZ cS cO b K V fz F cs x0 v_1 hv_1) (cw_X2_X2_isFull hts (fr := 0) (Nat.le_of_ble_eq_true rfl) (Nat.le_of_ble_eq_true rfl)) rfl hl.1 (Nat.le_of_ble_eq_true rfl) ⟨Nat.zero_le _, Nat.zero_le _⟩ dX2_add_1 (fun H locs hP hD hS => ?_)
  refine lv_if_eq (tgt := 8) hx hb dX2_add_4 (by decide) (fun c_3 => ?_) (fun c_3 => ?_)
  · skip
    replace h := (if_pos c_3).symm.trans h
    refine lv_aload_n hx hb dX2_add_8 rfl (lv_at hl 0 rfl) ?_
    replace h := ob h; obtain ⟨v_4, hv_4, h⟩ := h
    refine fg_X2_9 hx hb hts hown hK hP hv_4 dX2_add_9 ?_
    refine lv_aload_n hx hb dX2_add_12 rfl (lv_at hl 0 rfl) ?_
    replace h := ob h; obtain ⟨v_5, hv_5, h⟩ := h
    refine fg_X2_25 hx hb hts hown hK hP hv_5 dX2_add_13 ?_
    refine lv_iload_n hx hb dX2_add_16 rfl (lv_at hl 1 rfl) ?_
    replace h := ob h; obtain ⟨cs_6, hv_6, h⟩ := h
    refine ast0 hx hb hK hP hD hS rfl hv_6 dX2_add_17 (fun H locs hP hD hS => ?_)
    refine lv_aload_n hx hb dX2_add_18 rfl (lv_at hl 0 rfl) ?_
    replace h := ob h; obtain ⟨v_7, hv_7, h⟩ := h
    refine fg_X2_15 hx hb hts hown hK hP hv_7 dX2_add_19 ?_
    refine lv_aload_n hx hb dX2_add_22 rfl (lv_at hl 0 rfl) ?_
    replace h := ob h; obtain ⟨v_8, hv_8, h⟩ := h
    refine fg_X2_25 hx hb hts hown hK hP hv_8 dX2_add_23 ?_
    refine lv_lload_n hx hb dX2_add_26 rfl (lv_at hl 2 rfl) ?_
    replace h := ob h; obtain ⟨cs_9, hv_9, h⟩ := h
    refine ast2 hx hb hK hP hD hS rfl hv_9 dX2_add_27 (fun H locs hP hD hS => ?_)
    refine lv_aload_n hx hb dX2_add_28 rfl (lv_at hl 0 rfl) ?_
    replace h := ob h; obtain ⟨v_10, hv_10, h⟩ := h
    refine fg_X2_19 hx hb hts hown hK hP hv_10 dX2_add_29 ?_
    refine lv_aload_n hx hb dX2_add_32 rfl (lv_at hl 0 rfl) ?_
    replace h := ob h; obtain ⟨v_11, hv_11, h⟩ := h
    refine fg_X2_25 hx hb hts hown hK hP hv_11 dX2_add_33 ?_
    refine lv_iload hx hb dX2_add_36 (lv_at hl 3 rfl) ?_
    replace h := ob h; obtain ⟨cs_12, hv_12, h⟩ := h
    refine ast0 hx hb hK hP hD hS rfl hv_12 dX2_add_38 (fun H locs hP hD hS => ?_)
    refine lv_aload_n hx hb dX2_add_39 rfl (lv_at hl 0 rfl) ?_
    replace h := ob h; obtain ⟨v_13, hv_13, h⟩ := h
    refine fg_X2_22 hx hb hts hown hK hP hv_13 dX2_add_40 ?_
    refine lv_aload_n hx hb dX2_add_43 rfl (lv_at hl 0 rfl) ?_
    replace h := ob h; obtain ⟨v_14, hv_14, h⟩ := h
    refine fg_X2_25 hx hb hts hown hK hP hv_14 dX2_add_44 ?_
    refine lv_iload hx hb dX2_add_47 (lv_at hl 4 rfl) ?_
    replace h := ob h; obtain ⟨cs_15, hv_15, h⟩ := h
    refine ast0 hx hb hK hP hD hS rfl hv_15 dX2_add_49 (fun H locs hP hD hS => ?_)
    refine lv_aload_n hx hb dX2_add_50 rfl (lv_at hl 0 rfl) ?_
    refine lv_dup hx hb dX2_add_51 rfl ?_
    replace h := ob h; obtain ⟨v_16, hv_16, h⟩ := h
    refine fg_X2_25 hx hb hts hown hK hP hv_16 dX2_add_52 ?_
    refine lv_iconst (v := 1) hx hb dX2_add_55 (by decide) ?_
    refine lv_iadd hx hb dX2_add_56 ?_
    replace h := ob h; obtain ⟨cs_17, hv_17, h⟩ := h
    refine fp_X2_25 hx hb hts hown hK hP hD hS hv_17 dX2_add_57 (fun H locs hP hD hS => ?_)
    have e1 := Option.some.inj h
    rw [e1] at hP hD
    exact W.vret hx hb hr (fun t_ ht hW => ⟨⟨(), rfl, trivial, by rw [ht]; exact hP, hD⟩, hS.F ht⟩) hS.2.2 dX2_add_60
  · skip
    replace h := (if_neg c_3).symm.trans h
    have e1 := Option.some.inj h
    rw [e1] at hP hD
    exact W.vret hx hb hr (fun t_ ht hW => ⟨⟨(), rfl, trivial, by rw [ht]; exact hP, hD⟩, hS.F ht⟩) hS.2.2 dX2_add_7
theorem dX2_settleType_0 : decode cX2_settleType 0 = .ok (.aload_n 0, 1) := by decide +kernel
theorem dX2_settleType_1 : decode cX2_settleType 1 = .ok (.iload_n 1, 1) := by decide +kernel
theorem dX2_settleType_2 : decode cX2_settleType 2 = .ok (.invokevirtual 45, 3) := by decide +kernel
theorem dX2_settleType_5 : decode cX2_settleType 5 = .ok (.ifCond .eq 19, 3) := by decide +kernel
theorem dX2_settleType_8 : decode cX2_settleType 8 = .ok (.aload_n 0, 1) := by decide +kernel
theorem dX2_settleType_9 : decode cX2_settleType 9 = .ok (.getfield 22, 3) := by decide +kernel
theorem dX2_settleType_12 : decode cX2_settleType 12 = .ok (.iload_n 1, 1) := by decide +kernel
theorem dX2_settleType_13 : decode cX2_settleType 13 = .ok (.iload_n 2, 1) := by decide +kernel
theorem dX2_settleType_14 : decode cX2_settleType 14 = .ok (.iconst 2, 1) := by decide +kernel
theorem dX2_settleType_15 : decode cX2_settleType 15 = .ok (.if_icmp .ne 7, 3) := by decide +kernel
theorem dX2_settleType_18 : decode cX2_settleType 18 = .ok (.iconst 2, 1) := by decide +kernel
theorem dX2_settleType_19 : decode cX2_settleType 19 = .ok (.goto 4, 3) := by decide +kernel
theorem dX2_settleType_22 : decode cX2_settleType 22 = .ok (.iconst 1, 1) := by decide +kernel
theorem dX2_settleType_23 : decode cX2_settleType 23 = .ok (.iastore, 1) := by decide +kernel
theorem dX2_settleType_24 : decode cX2_settleType 24 = .ok (.return_, 1) := by decide +kernel
def c_X2_settleType_b24 (F : Nat) (cs1 : CS) : Option CS := some cs1
def c_X2_settleType_b23 (F : Nat) (cs1 : CS) (y0 : Int32) (y1 : Int32) (y2 : Nat) (wy2 : Nat) : Option CS := Option.bind (wA cs1 100 y2 wy2 y1 y0) fun cs_1 => c_X2_settleType_b24 F cs_1
def c_X2_settleType (F : Nat) (cs : CS) (x0 : Nat) (x1 : Int32) (x2 : Int32) : Option CS := Option.bind (ckE cs 3 x0) fun _ => Option.bind (c_X2_has F cs x0 x1) fun v_2 => if v_2 = 0 then (c_X2_settleType_b24 F cs) else (Option.bind (gA cs 3 100 x0) fun v_5 => if x2 = 2 then (c_X2_settleType_b23 F cs 2 x1 x0 v_5) else (c_X2_settleType_b23 F cs 1 x1 x0 v_5))
theorem cw_X0_X2_settleType {R : Room} {s : State} {args : Array Value} {y0 : MethodName} {c0 : ByteArray} {n0 : Nat} {r0 : Option FieldType} (hts : ∀ w ∈ wsOf y0 c0 n0 r0, w.before args s = true) {fr : Nat} (h1 : fr + 1 ≤ R.frames) (h2 : 8 + (3 + 11) + 60 * fr ≤ R.locals) : CallW R s args RX0 RX2 258 yX2_settleType cX2_settleType 3 none (wsOf yX2_settleType cX2_settleType 3 none) ({ frames := fr, cells := 0, slots := 0, locals := 60 * fr } : Room) 0 0 2 := cwV 2 hts (gd_all (in_V kw_1284 kw_1285 kw_1286 kw_196 kc_X2_settleType)) rfl rfl rfl (by decide +kernel) ⟨h1, h2⟩
set_option maxHeartbeats 4000000 in
set_option maxRecDepth 100000 in
theorem sc_X2_settleType (l : Launch) (dC : Nat → ClassId) (dI : Nat → Nat → Nat) (cB cI cJ cZ cS cO : ClassId) (b : Nat) (K V : Nat → Nat) (fz : Value) (F : Nat) (cs : CS) (x0 : Nat) (x1 : Int32) (x2 : Int32) (cs9 : CS) (hf : c_X2_settleType F cs x0 x1 x2 = some cs9) : ocV l dC dI cB cI cJ cZ cS cO b K V fz yX2_settleType (wsOf yX2_settleType cX2_settleType 3 none) (1) [.ref (b + x0), .int x1, .int x2] cs cs9 := by
  intro sz
  refine Met.ofW (cc := cX2_settleType) (maxL := 3) (ret := none) (by decide) rfl ?_
  intro p e s m args below meth c s₁ B hml hv
  obtain ⟨rfl, hsz, hP, hK, hD0, hZ⟩ := hv
  have hx := B.exec
  have hb := B.bytes
  have hr := B.returns
  have hts := atoms_spec (ws := (wsOf yX2_settleType cX2_settleType 3 none)) B.pre
  have hown : s.vm.findClass RX2 = some m.cls := findClass_of_methodNamed B.named
  have hlocks := B.notSynchronized
  subst hsz
  have hD := hD0.self (sz := s.heap.size)
  generalize hAe : va_A (cW cB cI cJ cZ cS cO b cs) s.heap.size = A at hD hZ ⊢
  have hA : ∀ q : Nat, s.heap.size ≤ q → A q := fun q h => by rw [← hAe]; exact Or.inr h
  have hS : va_S A s.heap s.heap [] := va_S.rf
  have hl := lv_entry ([.ref (b + x0), .int x1, .int x2]) (n := 3) (Nat.le_of_ble_eq_true rfl)
  rw [lg_entry_eq]
  generalize (lg_sl ([.ref (b + x0), .int x1, .int x2]) ++ List.replicate (3 - (lg_sl ([.ref (b + x0), .int x1, .int x2])).length) Slot.unset).toArray = ls at hl ⊢
  have hl : lv_has ls 3 [(0, .ref (b + x0)), (1, .int x1), (2, .int x2)] := hl
  have B_24 : ∀ (cs1 : CS) , c_X2_settleType_b24 F cs1 = some cs9 → ∀ (H : Heap) (locs : List Loc) (ls : Array Slot), va_P (dC, dI) vwCl (cW cB cI cJ cZ cS cO b cs1) H → va_D A (cW cB cI cJ cZ cS cO b cs1) → va_S A s.heap H locs → lv_has ls 3 [] → W p l e (headSpec (wsOf yX2_settleType cX2_settleType 3 none) ({ frames := 1, cells := 0, slots := 0, locals := 60 * (1) } : Room)).room s m ([.ref (b + x0), .int x1, .int x2] : List Value).toArray below meth c H locs 0 0 (MQ below (va_Qv (fun (_ : Unit) => True) (fun _ t_ => va_P (dC, dI) vwCl (cW cB cI cJ cZ cS cO b cs9) t_.heap ∧ va_D A (cW cB cI cJ cZ cS cO b cs9)) A) ([.ref (b + x0), .int x1, .int x2] : List Value).toArray s 0 0 A) (F0 m 24 ls []) := by
    intro cs1  h H locs ls hP hD hS hl
    unfold c_X2_settleType_b24 at h
    have e1 := Option.some.inj h
    rw [e1] at hP hD
    exact W.vret hx hb hr (fun t_ ht hW => ⟨⟨(), rfl, trivial, by rw [ht]; exact hP, hD⟩, hS.F ht⟩) hS.2.2 dX2_settleType_24
  have B_23 : ∀ (cs1 : CS) (y0 : Int32) (y1 : Int32) (y2 : Nat) (wy2 : Nat), c_X2_settleType_b23 F cs1 y0 y1 y2 wy2 = some cs9 → ∀ (H : Heap) (locs : List Loc) (ls : Array Slot), va_P (dC, dI) vwCl (cW cB cI cJ cZ cS cO b cs1) H → va_D A (cW cB cI cJ cZ cS cO b cs1) → va_S A s.heap H locs → lv_has ls 3 [] → W p l e (headSpec (wsOf yX2_settleType cX2_settleType 3 none) ({ frames := 1, cells := 0, slots := 0, locals := 60 * (1) } : Room)).room s m ([.ref (b + x0), .int x1, .int x2] : List Value).toArray below meth c H locs 0 0 (MQ below (va_Qv (fun (_ : Unit) => True) (fun _ t_ => va_P (dC, dI) vwCl (cW cB cI cJ cZ cS cO b cs9) t_.heap ∧ va_D A (cW cB cI cJ cZ cS cO b cs9)) A) ([.ref (b + x0), .int x1, .int x2] : List Value).toArray s 0 0 A) (F0 m 23 ls [.int y0, .int y1, .ref (b + wy2)]) := by
    intro cs1 y0 y1 y2 wy2 h H locs ls hP hD hS hl
    unfold c_X2_settleType_b23 at h
    replace h := ob h; obtain ⟨cs_1, hv_1, h⟩ := h
    refine ast0 hx hb hK hP hD hS rfl hv_1 dX2_settleType_23 (fun H locs hP hD hS => ?_)
    exact B_24 cs_1 h _ _ _ hP hD hS (lv_sub hl [] rfl)
  have h := hf
  unfold c_X2_settleType at h
  refine lv_aload_n hx hb dX2_settleType_0 rfl (lv_at hl 0 rfl) ?_
  refine lv_iload_n hx hb dX2_settleType_1 rfl (lv_at hl 1 rfl) ?_
  replace h := ob h; obtain ⟨w_3, hw_3, h⟩ := h
  replace h := ob h; obtain ⟨v_2, hv_2, h⟩ := h
  refine ccI (As := [.int x1]) hx hb hml hts hown hK hP hD hS hA hZ (X := 3) (by decide) rfl (ckE_some hw_3) (sc_X2_has l dC dI cB cI cJ cZ cS cO b K V fz F cs x0 x1 v_2 hv_2) (cw_X2_X2_has hts (fr := 0) (Nat.le_of_ble_eq_true rfl) (Nat.le_of_ble_eq_true rfl)) rfl hl.1 (Nat.le_of_ble_eq_true rfl) ⟨Nat.zero_le _, Nat.zero_le _⟩ dX2_settleType_2 (fun H locs hP hD hS => ?_)
  refine lv_if_eq (tgt := 24) hx hb dX2_settleType_5 (by decide) (fun c_4 => ?_) (fun c_4 => ?_)
  · skip
    replace h := (if_pos c_4).symm.trans h
    exact B_24 cs h _ _ _ hP hD hS (lv_sub hl [] rfl)
  · skip
    replace h := (if_neg c_4).symm.trans h
    refine lv_aload_n hx hb dX2_settleType_8 rfl (lv_at hl 0 rfl) ?_
    replace h := ob h; obtain ⟨v_5, hv_5, h⟩ := h
    refine fg_X2_22 hx hb hts hown hK hP hv_5 dX2_settleType_9 ?_
    refine lv_iload_n hx hb dX2_settleType_12 rfl (lv_at hl 1 rfl) ?_
    refine lv_iload_n hx hb dX2_settleType_13 rfl (lv_at hl 2 rfl) ?_
    refine lv_iconst (v := 2) hx hb dX2_settleType_14 (by decide) ?_
    refine lv_icmp_ne (tgt := 22) hx hb dX2_settleType_15 (by decide) (fun c_6 => ?_) (fun c_6 => ?_)
    · skip
      replace h := (if_neg c_6).symm.trans h
      refine lv_iconst (v := 1) hx hb dX2_settleType_22 (by decide) ?_
      exact B_23 cs 1 x1 x0 v_5 h _ _ _ hP hD hS (lv_sub hl [] rfl)
    · skip
      replace h := (if_pos c_6).symm.trans h
      refine lv_iconst (v := 2) hx hb dX2_settleType_18 (by decide) ?_
      refine lv_goto (tgt := 23) hx hb dX2_settleType_19 (by decide) ?_
      exact B_23 cs 2 x1 x0 v_5 h _ _ _ hP hD hS (lv_sub hl [] rfl)
theorem dX5_isGrouped_0 : decode cX5_isGrouped 0 = .ok (.aload_n 0, 1) := by decide +kernel
theorem dX5_isGrouped_1 : decode cX5_isGrouped 1 = .ok (.getfield 41, 3) := by decide +kernel
theorem dX5_isGrouped_4 : decode cX5_isGrouped 4 = .ok (.ifCond .ne 10, 3) := by decide +kernel
theorem dX5_isGrouped_7 : decode cX5_isGrouped 7 = .ok (.aload_n 0, 1) := by decide +kernel
theorem dX5_isGrouped_8 : decode cX5_isGrouped 8 = .ok (.getfield 45, 3) := by decide +kernel
theorem dX5_isGrouped_11 : decode cX5_isGrouped 11 = .ok (.ifCond .le 7, 3) := by decide +kernel
theorem dX5_isGrouped_14 : decode cX5_isGrouped 14 = .ok (.iconst 1, 1) := by decide +kernel
theorem dX5_isGrouped_15 : decode cX5_isGrouped 15 = .ok (.goto 4, 3) := by decide +kernel
theorem dX5_isGrouped_18 : decode cX5_isGrouped 18 = .ok (.iconst 0, 1) := by decide +kernel
theorem dX5_isGrouped_19 : decode cX5_isGrouped 19 = .ok (.ireturn, 1) := by decide +kernel
def c_X5_isGrouped_b19 (F : Nat) (cs : CS) (y0 : Int32) : Option Int32 := Option.bind (ckZ y0) fun _ => some y0
def c_X5_isGrouped_b14 (F : Nat) (cs : CS) : Option Int32 := c_X5_isGrouped_b19 F cs 1
def c_X5_isGrouped (F : Nat) (cs : CS) (x0 : Nat) : Option Int32 := Option.bind (gI cs 6 198 x0) fun v_2 => if v_2 = 0 then (Option.bind (gI cs 6 203 x0) fun v_4 => if v_4 ≤ 0 then (c_X5_isGrouped_b19 F cs 0) else (c_X5_isGrouped_b14 F cs )) else (c_X5_isGrouped_b14 F cs )
theorem cw_X0_X5_isGrouped {R : Room} {s : State} {args : Array Value} {y0 : MethodName} {c0 : ByteArray} {n0 : Nat} {r0 : Option FieldType} (hts : ∀ w ∈ wsOf y0 c0 n0 r0, w.before args s = true) {fr : Nat} (h1 : fr + 1 ≤ R.frames) (h2 : 8 + (1 + 11) + 60 * fr ≤ R.locals) : CallW R s args RX0 RX5 138 yX5_isGrouped cX5_isGrouped 1 (some .boolean) (wsOf yX5_isGrouped cX5_isGrouped 1 (some .boolean)) ({ frames := fr, cells := 0, slots := 0, locals := 60 * fr } : Room) 0 0 0 := cwV 0 hts (gd_all (in_V kw_1289 kw_1290 kw_1291 kw_195 kc_X5_isGrouped)) rfl rfl rfl (by decide +kernel) ⟨h1, h2⟩
theorem cw_X4_X5_isGrouped {R : Room} {s : State} {args : Array Value} {y0 : MethodName} {c0 : ByteArray} {n0 : Nat} {r0 : Option FieldType} (hts : ∀ w ∈ wsOf y0 c0 n0 r0, w.before args s = true) {fr : Nat} (h1 : fr + 1 ≤ R.frames) (h2 : 8 + (1 + 11) + 60 * fr ≤ R.locals) : CallW R s args RX4 RX5 145 yX5_isGrouped cX5_isGrouped 1 (some .boolean) (wsOf yX5_isGrouped cX5_isGrouped 1 (some .boolean)) ({ frames := fr, cells := 0, slots := 0, locals := 60 * fr } : Room) 0 0 0 := cwV 0 hts (gd_all (in_V kw_1465 kw_1290 kw_1291 kw_195 kc_X5_isGrouped)) rfl rfl rfl (by decide +kernel) ⟨h1, h2⟩
set_option maxHeartbeats 4000000 in
set_option maxRecDepth 100000 in
theorem sc_X5_isGrouped (l : Launch) (dC : Nat → ClassId) (dI : Nat → Nat → Nat) (cB cI cJ cZ cS cO : ClassId) (b : Nat) (K V : Nat → Nat) (fz : Value) (F : Nat) (cs : CS) (x0 : Nat) (r9 : Int32) (hf : c_X5_isGrouped F cs x0 = some r9) : ocI l dC dI cB cI cJ cZ cS cO b K V fz yX5_isGrouped (wsOf yX5_isGrouped cX5_isGrouped 1 (some .boolean)) (0) [.ref (b + x0)] cs cs r9 := by
  intro sz
  refine Met.ofW (cc := cX5_isGrouped) (maxL := 1) (ret := (some .boolean)) (by decide) rfl ?_
  intro p e s m args below meth c s₁ B hml hv
  obtain ⟨rfl, hsz, hP, hK, hD0, hZ⟩ := hv
  have hx := B.exec
  have hb := B.bytes
  have hr := B.returns
  have hts := atoms_spec (ws := (wsOf yX5_isGrouped cX5_isGrouped 1 (some .boolean))) B.pre
  have hown : s.vm.findClass RX5 = some m.cls := findClass_of_methodNamed B.named
  have hlocks := B.notSynchronized
  subst hsz
  have hD := hD0.self (sz := s.heap.size)
  generalize hAe : va_A (cW cB cI cJ cZ cS cO b cs) s.heap.size = A at hD hZ ⊢
  have hA : ∀ q : Nat, s.heap.size ≤ q → A q := fun q h => by rw [← hAe]; exact Or.inr h
  have hS : va_S A s.heap s.heap [] := va_S.rf
  have hl := lv_entry ([.ref (b + x0)]) (n := 1) (Nat.le_of_ble_eq_true rfl)
  rw [lg_entry_eq]
  generalize (lg_sl ([.ref (b + x0)]) ++ List.replicate (1 - (lg_sl ([.ref (b + x0)])).length) Slot.unset).toArray = ls at hl ⊢
  have hl : lv_has ls 1 [(0, .ref (b + x0))] := hl
  have B_19 : ∀ (y0 : Int32), c_X5_isGrouped_b19 F cs y0 = some r9 → ∀ (H : Heap) (locs : List Loc) (ls : Array Slot), va_P (dC, dI) vwCl (cW cB cI cJ cZ cS cO b cs) H → va_D A (cW cB cI cJ cZ cS cO b cs) → va_S A s.heap H locs → lv_has ls 1 [] → W p l e (headSpec (wsOf yX5_isGrouped cX5_isGrouped 1 (some .boolean)) ({ frames := 0, cells := 0, slots := 0, locals := 60 * (0) } : Room)).room s m ([.ref (b + x0)] : List Value).toArray below meth c H locs 0 0 (MQ below (va_Qi (fun (x : Int32) (_ : Unit) => x = r9) (fun _ t_ => va_P (dC, dI) vwCl (cW cB cI cJ cZ cS cO b cs) t_.heap ∧ va_D A (cW cB cI cJ cZ cS cO b cs)) A) ([.ref (b + x0)] : List Value).toArray s 0 0 A) (F0 m 19 ls [.int y0]) := by
    intro y0 h H locs ls hP hD hS hl
    unfold c_X5_isGrouped_b19 at h
    replace h := ob h; obtain ⟨w_1, hw_1, h⟩ := h
    have e2 := Option.some.inj h
    exact W.zret (v := y0) hx hb hr (nzN (ckZ_some hw_1)) (fun t_ ht hW => ⟨⟨y0, (), rfl, e2, by rw [ht]; exact hP, hD⟩, hS.F ht⟩) hS.2.2 dX5_isGrouped_19
  have B_14 : c_X5_isGrouped_b14 F cs = some r9 → ∀ (H : Heap) (locs : List Loc) (ls : Array Slot), va_P (dC, dI) vwCl (cW cB cI cJ cZ cS cO b cs) H → va_D A (cW cB cI cJ cZ cS cO b cs) → va_S A s.heap H locs → lv_has ls 1 [] → W p l e (headSpec (wsOf yX5_isGrouped cX5_isGrouped 1 (some .boolean)) ({ frames := 0, cells := 0, slots := 0, locals := 60 * (0) } : Room)).room s m ([.ref (b + x0)] : List Value).toArray below meth c H locs 0 0 (MQ below (va_Qi (fun (x : Int32) (_ : Unit) => x = r9) (fun _ t_ => va_P (dC, dI) vwCl (cW cB cI cJ cZ cS cO b cs) t_.heap ∧ va_D A (cW cB cI cJ cZ cS cO b cs)) A) ([.ref (b + x0)] : List Value).toArray s 0 0 A) (F0 m 14 ls []) := by
    intro  h H locs ls hP hD hS hl
    unfold c_X5_isGrouped_b14 at h
    refine lv_iconst (v := 1) hx hb dX5_isGrouped_14 (by decide) ?_
    refine lv_goto (tgt := 19) hx hb dX5_isGrouped_15 (by decide) ?_
    exact B_19 1 h _ _ _ hP hD hS (lv_sub hl [] rfl)
  have h := hf
  unfold c_X5_isGrouped at h
  refine lv_aload_n hx hb dX5_isGrouped_0 rfl (lv_at hl 0 rfl) ?_
  replace h := ob h; obtain ⟨v_2, hv_2, h⟩ := h
  refine fg_X5_41 hx hb hts hown hK hP hv_2 dX5_isGrouped_1 ?_
  refine lv_if_ne (tgt := 14) hx hb dX5_isGrouped_4 (by decide) (fun c_3 => ?_) (fun c_3 => ?_)
  · skip
    replace h := (if_neg c_3).symm.trans h
    exact B_14  h _ _ _ hP hD hS (lv_sub hl [] rfl)
  · skip
    replace h := (if_pos c_3).symm.trans h
    refine lv_aload_n hx hb dX5_isGrouped_7 rfl (lv_at hl 0 rfl) ?_
    replace h := ob h; obtain ⟨v_4, hv_4, h⟩ := h
    refine fg_X5_45 hx hb hts hown hK hP hv_4 dX5_isGrouped_8 ?_
    refine lv_if_le (tgt := 18) hx hb dX5_isGrouped_11 (by decide) (fun c_5 => ?_) (fun c_5 => ?_)
    · skip
      replace h := (if_pos c_5).symm.trans h
      refine lv_iconst (v := 0) hx hb dX5_isGrouped_18 (by decide) ?_
      exact B_19 0 h _ _ _ hP hD hS (lv_sub hl [] rfl)
    · skip
      replace h := (if_neg c_5).symm.trans h
      exact B_14  h _ _ _ hP hD hS (lv_sub hl [] rfl)
theorem dX2_sameTypes_0 : decode cX2_sameTypes 0 = .ok (.aload_n 0, 1) := by decide +kernel
theorem dX2_sameTypes_1 : decode cX2_sameTypes 1 = .ok (.getfield 25, 3) := by decide +kernel
theorem dX2_sameTypes_4 : decode cX2_sameTypes 4 = .ok (.aload_n 1, 1) := by decide +kernel
theorem dX2_sameTypes_5 : decode cX2_sameTypes 5 = .ok (.getfield 25, 3) := by decide +kernel
theorem dX2_sameTypes_8 : decode cX2_sameTypes 8 = .ok (.if_icmp .eq 5, 3) := by decide +kernel
theorem dX2_sameTypes_11 : decode cX2_sameTypes 11 = .ok (.iconst 0, 1) := by decide +kernel
theorem dX2_sameTypes_12 : decode cX2_sameTypes 12 = .ok (.ireturn, 1) := by decide +kernel
theorem dX2_sameTypes_13 : decode cX2_sameTypes 13 = .ok (.iconst 0, 1) := by decide +kernel
theorem dX2_sameTypes_14 : decode cX2_sameTypes 14 = .ok (.istore_n 2, 1) := by decide +kernel
theorem dX2_sameTypes_15 : decode cX2_sameTypes 15 = .ok (.iload_n 2, 1) := by decide +kernel
theorem dX2_sameTypes_16 : decode cX2_sameTypes 16 = .ok (.aload_n 0, 1) := by decide +kernel
theorem dX2_sameTypes_17 : decode cX2_sameTypes 17 = .ok (.getfield 25, 3) := by decide +kernel
theorem dX2_sameTypes_20 : decode cX2_sameTypes 20 = .ok (.if_icmp .ge 32, 3) := by decide +kernel
theorem dX2_sameTypes_23 : decode cX2_sameTypes 23 = .ok (.iload_n 2, 1) := by decide +kernel
theorem dX2_sameTypes_24 : decode cX2_sameTypes 24 = .ok (.bipush 8, 2) := by decide +kernel
theorem dX2_sameTypes_26 : decode cX2_sameTypes 26 = .ok (.if_icmp .ge 26, 3) := by decide +kernel
theorem dX2_sameTypes_29 : decode cX2_sameTypes 29 = .ok (.aload_n 0, 1) := by decide +kernel
theorem dX2_sameTypes_30 : decode cX2_sameTypes 30 = .ok (.getfield 22, 3) := by decide +kernel
theorem dX2_sameTypes_33 : decode cX2_sameTypes 33 = .ok (.iload_n 2, 1) := by decide +kernel
theorem dX2_sameTypes_34 : decode cX2_sameTypes 34 = .ok (.iaload, 1) := by decide +kernel
theorem dX2_sameTypes_35 : decode cX2_sameTypes 35 = .ok (.aload_n 1, 1) := by decide +kernel
theorem dX2_sameTypes_36 : decode cX2_sameTypes 36 = .ok (.getfield 22, 3) := by decide +kernel
theorem dX2_sameTypes_39 : decode cX2_sameTypes 39 = .ok (.iload_n 2, 1) := by decide +kernel
theorem dX2_sameTypes_40 : decode cX2_sameTypes 40 = .ok (.iaload, 1) := by decide +kernel
theorem dX2_sameTypes_41 : decode cX2_sameTypes 41 = .ok (.if_icmp .eq 5, 3) := by decide +kernel
theorem dX2_sameTypes_44 : decode cX2_sameTypes 44 = .ok (.iconst 0, 1) := by decide +kernel
theorem dX2_sameTypes_45 : decode cX2_sameTypes 45 = .ok (.ireturn, 1) := by decide +kernel
theorem dX2_sameTypes_46 : decode cX2_sameTypes 46 = .ok (.iinc 2 1, 3) := by decide +kernel
theorem dX2_sameTypes_49 : decode cX2_sameTypes 49 = .ok (.goto (-34), 3) := by decide +kernel
theorem dX2_sameTypes_52 : decode cX2_sameTypes 52 = .ok (.iconst 1, 1) := by decide +kernel
theorem dX2_sameTypes_53 : decode cX2_sameTypes 53 = .ok (.ireturn, 1) := by decide +kernel
def c_X2_sameTypes_b52 (F : Nat) (cs : CS) : Option Int32 := some 1
def c_X2_sameTypes_L15 (F : Nat) (cs : CS) : Nat → Nat → Nat → Int32 → Option Int32
  | 0, _, _, _ => none
  | lf_15 + 1, u0, u1, u2 => Option.bind (gI cs 3 96 u0) fun v_1 => if v_1 ≤ u2 then (c_X2_sameTypes_b52 F cs ) else (if 8 ≤ u2 then (c_X2_sameTypes_b52 F cs ) else (Option.bind (gA cs 3 100 u0) fun v_4 => Option.bind (rA cs 100 u0 v_4 u2) fun v_5 => Option.bind (gA cs 3 100 u1) fun v_6 => Option.bind (rA cs 100 u1 v_6 u2) fun v_7 => if v_5 = v_7 then ((c_X2_sameTypes_L15 F cs lf_15) u0 u1 (u2 + 1)) else (some 0)))
def c_X2_sameTypes (F : Nat) (cs : CS) (x0 : Nat) (x1 : Nat) : Option Int32 := Option.bind (gI cs 3 96 x0) fun v_9 => Option.bind (gI cs 3 96 x1) fun v_10 => if v_9 = v_10 then (c_X2_sameTypes_L15 F cs F x0 x1 0) else (some 0)
theorem cw_X0_X2_sameTypes {R : Room} {s : State} {args : Array Value} {y0 : MethodName} {c0 : ByteArray} {n0 : Nat} {r0 : Option FieldType} (hts : ∀ w ∈ wsOf y0 c0 n0 r0, w.before args s = true) {fr : Nat} (h1 : fr + 1 ≤ R.frames) (h2 : 8 + (3 + 11) + 60 * fr ≤ R.locals) : CallW R s args RX0 RX2 94 yX2_sameTypes cX2_sameTypes 3 (some .boolean) (wsOf yX2_sameTypes cX2_sameTypes 3 (some .boolean)) ({ frames := fr, cells := 0, slots := 0, locals := 60 * fr } : Room) 0 0 1 := cwV 1 hts (gd_all (in_V kw_1301 kw_1302 kw_1303 kw_196 kc_X2_sameTypes)) rfl rfl rfl (by decide +kernel) ⟨h1, h2⟩
set_option maxHeartbeats 4000000 in
set_option maxRecDepth 100000 in
theorem sc_X2_sameTypes (l : Launch) (dC : Nat → ClassId) (dI : Nat → Nat → Nat) (cB cI cJ cZ cS cO : ClassId) (b : Nat) (K V : Nat → Nat) (fz : Value) (F : Nat) (cs : CS) (x0 : Nat) (x1 : Nat) (r9 : Int32) (hf : c_X2_sameTypes F cs x0 x1 = some r9) : ocI l dC dI cB cI cJ cZ cS cO b K V fz yX2_sameTypes (wsOf yX2_sameTypes cX2_sameTypes 3 (some .boolean)) (0) [.ref (b + x0), .ref (b + x1)] cs cs r9 := by
  intro sz
  refine Met.ofW (cc := cX2_sameTypes) (maxL := 3) (ret := (some .boolean)) (by decide) rfl ?_
  intro p e s m args below meth c s₁ B hml hv
  obtain ⟨rfl, hsz, hP, hK, hD0, hZ⟩ := hv
  have hx := B.exec
  have hb := B.bytes
  have hr := B.returns
  have hts := atoms_spec (ws := (wsOf yX2_sameTypes cX2_sameTypes 3 (some .boolean))) B.pre
  have hown : s.vm.findClass RX2 = some m.cls := findClass_of_methodNamed B.named
  have hlocks := B.notSynchronized
  subst hsz
  have hD := hD0.self (sz := s.heap.size)
  generalize hAe : va_A (cW cB cI cJ cZ cS cO b cs) s.heap.size = A at hD hZ ⊢
  have hA : ∀ q : Nat, s.heap.size ≤ q → A q := fun q h => by rw [← hAe]; exact Or.inr h
  have hS : va_S A s.heap s.heap [] := va_S.rf
  have hl := lv_entry ([.ref (b + x0), .ref (b + x1)]) (n := 3) (Nat.le_of_ble_eq_true rfl)
  rw [lg_entry_eq]
  generalize (lg_sl ([.ref (b + x0), .ref (b + x1)]) ++ List.replicate (3 - (lg_sl ([.ref (b + x0), .ref (b + x1)])).length) Slot.unset).toArray = ls at hl ⊢
  have hl : lv_has ls 3 [(0, .ref (b + x0)), (1, .ref (b + x1))] := hl
  have B_52 : c_X2_sameTypes_b52 F cs = some r9 → ∀ (H : Heap) (locs : List Loc) (ls : Array Slot), va_P (dC, dI) vwCl (cW cB cI cJ cZ cS cO b cs) H → va_D A (cW cB cI cJ cZ cS cO b cs) → va_S A s.heap H locs → lv_has ls 3 [] → W p l e (headSpec (wsOf yX2_sameTypes cX2_sameTypes 3 (some .boolean)) ({ frames := 0, cells := 0, slots := 0, locals := 60 * (0) } : Room)).room s m ([.ref (b + x0), .ref (b + x1)] : List Value).toArray below meth c H locs 0 0 (MQ below (va_Qi (fun (x : Int32) (_ : Unit) => x = r9) (fun _ t_ => va_P (dC, dI) vwCl (cW cB cI cJ cZ cS cO b cs) t_.heap ∧ va_D A (cW cB cI cJ cZ cS cO b cs)) A) ([.ref (b + x0), .ref (b + x1)] : List Value).toArray s 0 0 A) (F0 m 52 ls []) := by
    intro  h H locs ls hP hD hS hl
    unfold c_X2_sameTypes_b52 at h
    refine lv_iconst (v := 1) hx hb dX2_sameTypes_52 (by decide) ?_
    have e2 := Option.some.inj h
    exact W.zret (v := 1) hx hb hr (nzN (Or.inr rfl)) (fun t_ ht hW => ⟨⟨1, (), rfl, e2, by rw [ht]; exact hP, hD⟩, hS.F ht⟩) hS.2.2 dX2_sameTypes_53
  have L_15 : ∀ (lf_15 : Nat), ∀ (u0 : Nat) (u1 : Nat) (u2 : Int32), c_X2_sameTypes_L15 F cs lf_15 u0 u1 u2 = some r9 → ∀ (H : Heap) (locs : List Loc) (ls : Array Slot), va_P (dC, dI) vwCl (cW cB cI cJ cZ cS cO b cs) H → va_D A (cW cB cI cJ cZ cS cO b cs) → va_S A s.heap H locs → lv_has ls 3 [(0, .ref (b + u0)), (1, .ref (b + u1)), (2, .int u2)] → W p l e (headSpec (wsOf yX2_sameTypes cX2_sameTypes 3 (some .boolean)) ({ frames := 0, cells := 0, slots := 0, locals := 60 * (0) } : Room)).room s m ([.ref (b + x0), .ref (b + x1)] : List Value).toArray below meth c H locs 0 0 (MQ below (va_Qi (fun (x : Int32) (_ : Unit) => x = r9) (fun _ t_ => va_P (dC, dI) vwCl (cW cB cI cJ cZ cS cO b cs) t_.heap ∧ va_D A (cW cB cI cJ cZ cS cO b cs)) A) ([.ref (b + x0), .ref (b + x1)] : List Value).toArray s 0 0 A) (F0 m 15 ls []) := by
    intro lf_15
    induction lf_15 with
    | zero => intro u0 u1 u2 h; cases (show (none : Option Int32) = _ from h)
    | succ lf_15 ih_15 =>
      intro u0 u1 u2 h H locs ls hP hD hS hl
      rw [c_X2_sameTypes_L15] at h
      refine lv_iload_n hx hb dX2_sameTypes_15 rfl (lv_at hl 2 rfl) ?_
      refine lv_aload_n hx hb dX2_sameTypes_16 rfl (lv_at hl 0 rfl) ?_
      replace h := ob h; obtain ⟨v_1, hv_1, h⟩ := h
      refine fg_X2_25 hx hb hts hown hK hP hv_1 dX2_sameTypes_17 ?_
      refine lv_icmp_ge (tgt := 52) hx hb dX2_sameTypes_20 (by decide) (fun c_2 => ?_) (fun c_2 => ?_)
      · skip
        replace h := (if_pos c_2).symm.trans h
        exact B_52  h _ _ _ hP hD hS (lv_sub hl [] rfl)
      · skip
        replace h := (if_neg c_2).symm.trans h
        refine lv_iload_n hx hb dX2_sameTypes_23 rfl (lv_at hl 2 rfl) ?_
        refine lv_bipush (v := 8) hx hb dX2_sameTypes_24 (by decide) ?_
        refine lv_icmp_ge (tgt := 52) hx hb dX2_sameTypes_26 (by decide) (fun c_3 => ?_) (fun c_3 => ?_)
        · skip
          replace h := (if_pos c_3).symm.trans h
          exact B_52  h _ _ _ hP hD hS (lv_sub hl [] rfl)
        · skip
          replace h := (if_neg c_3).symm.trans h
          refine lv_aload_n hx hb dX2_sameTypes_29 rfl (lv_at hl 0 rfl) ?_
          replace h := ob h; obtain ⟨v_4, hv_4, h⟩ := h
          refine fg_X2_22 hx hb hts hown hK hP hv_4 dX2_sameTypes_30 ?_
          refine lv_iload_n hx hb dX2_sameTypes_33 rfl (lv_at hl 2 rfl) ?_
          replace h := ob h; obtain ⟨v_5, hv_5, h⟩ := h
          refine ald0 hx hb hK hP rfl hv_5 dX2_sameTypes_34 ?_
          refine lv_aload_n hx hb dX2_sameTypes_35 rfl (lv_at hl 1 rfl) ?_
          replace h := ob h; obtain ⟨v_6, hv_6, h⟩ := h
          refine fg_X2_22 hx hb hts hown hK hP hv_6 dX2_sameTypes_36 ?_
          refine lv_iload_n hx hb dX2_sameTypes_39 rfl (lv_at hl 2 rfl) ?_
          replace h := ob h; obtain ⟨v_7, hv_7, h⟩ := h
          refine ald0 hx hb hK hP rfl hv_7 dX2_sameTypes_40 ?_
          refine lv_icmp_eq (tgt := 46) hx hb dX2_sameTypes_41 (by decide) (fun c_8 => ?_) (fun c_8 => ?_)
          · skip
            replace h := (if_pos c_8).symm.trans h
            refine lv_iinc (v := u2 + 1) (lv' := [(2, .int (u2 + 1)), (0, .ref (b + u0)), (1, .ref (b + u1))]) hx hb dX2_sameTypes_46 hl (k := 2) rfl rfl (by decide) rfl (fun ls hl => ?_)
            refine lv_goto (tgt := 15) hx hb dX2_sameTypes_49 (by decide) ?_
            exact ih_15 u0 u1 (u2 + 1) h _ _ _ hP hD hS (lv_sub hl [1, 2, 0] rfl)
          · skip
            replace h := (if_neg c_8).symm.trans h
            refine lv_iconst (v := 0) hx hb dX2_sameTypes_44 (by decide) ?_
            have e2 := Option.some.inj h
            exact W.zret (v := 0) hx hb hr (nzN (Or.inl rfl)) (fun t_ ht hW => ⟨⟨0, (), rfl, e2, by rw [ht]; exact hP, hD⟩, hS.F ht⟩) hS.2.2 dX2_sameTypes_45
  have h := hf
  unfold c_X2_sameTypes at h
  refine lv_aload_n hx hb dX2_sameTypes_0 rfl (lv_at hl 0 rfl) ?_
  replace h := ob h; obtain ⟨v_9, hv_9, h⟩ := h
  refine fg_X2_25 hx hb hts hown hK hP hv_9 dX2_sameTypes_1 ?_
  refine lv_aload_n hx hb dX2_sameTypes_4 rfl (lv_at hl 1 rfl) ?_
  replace h := ob h; obtain ⟨v_10, hv_10, h⟩ := h
  refine fg_X2_25 hx hb hts hown hK hP hv_10 dX2_sameTypes_5 ?_
  refine lv_icmp_eq (tgt := 13) hx hb dX2_sameTypes_8 (by decide) (fun c_11 => ?_) (fun c_11 => ?_)
  · skip
    replace h := (if_pos c_11).symm.trans h
    refine lv_iconst (v := 0) hx hb dX2_sameTypes_13 (by decide) ?_
    refine lv_istore_n (lv' := [(2, .int 0), (0, .ref (b + x0)), (1, .ref (b + x1))]) hx hb dX2_sameTypes_14 rfl hl (by decide) rfl (fun ls hl => ?_)
    exact L_15 F x0 x1 0 h _ _ _ hP hD hS (lv_sub hl [1, 2, 0] rfl)
  · skip
    replace h := (if_neg c_11).symm.trans h
    refine lv_iconst (v := 0) hx hb dX2_sameTypes_11 (by decide) ?_
    have e2 := Option.some.inj h
    exact W.zret (v := 0) hx hb hr (nzN (Or.inl rfl)) (fun t_ ht hW => ⟨⟨0, (), rfl, e2, by rw [ht]; exact hP, hD⟩, hS.F ht⟩) hS.2.2 dX2_sameTypes_12
theorem dX8_holds_0 : decode cX8_holds 0 = .ok (.iload_n 1, 1) := by decide +kernel
theorem dX8_holds_1 : decode cX8_holds 1 = .ok (.ifCond .lt 25, 3) := by decide +kernel
theorem dX8_holds_4 : decode cX8_holds 4 = .ok (.iload_n 1, 1) := by decide +kernel
theorem dX8_holds_5 : decode cX8_holds 5 = .ok (.aload_n 0, 1) := by decide +kernel
theorem dX8_holds_6 : decode cX8_holds 6 = .ok (.getfield 11, 3) := by decide +kernel
theorem dX8_holds_9 : decode cX8_holds 9 = .ok (.arraylength, 1) := by decide +kernel
theorem dX8_holds_10 : decode cX8_holds 10 = .ok (.if_icmp .ge 16, 3) := by decide +kernel
theorem dX8_holds_13 : decode cX8_holds 13 = .ok (.iload_n 1, 1) := by decide +kernel
theorem dX8_holds_14 : decode cX8_holds 14 = .ok (.aload_n 0, 1) := by decide +kernel
theorem dX8_holds_15 : decode cX8_holds 15 = .ok (.getfield 15, 3) := by decide +kernel
theorem dX8_holds_18 : decode cX8_holds 18 = .ok (.arraylength, 1) := by decide +kernel
theorem dX8_holds_19 : decode cX8_holds 19 = .ok (.if_icmp .ge 7, 3) := by decide +kernel
theorem dX8_holds_22 : decode cX8_holds 22 = .ok (.iconst 1, 1) := by decide +kernel
theorem dX8_holds_23 : decode cX8_holds 23 = .ok (.goto 4, 3) := by decide +kernel
theorem dX8_holds_26 : decode cX8_holds 26 = .ok (.iconst 0, 1) := by decide +kernel
theorem dX8_holds_27 : decode cX8_holds 27 = .ok (.ireturn, 1) := by decide +kernel
def c_X8_holds_b27 (F : Nat) (cs : CS) (y0 : Int32) : Option Int32 := Option.bind (ckZ y0) fun _ => some y0
def c_X8_holds_b26 (F : Nat) (cs : CS) : Option Int32 := c_X8_holds_b27 F cs 0
def c_X8_holds (F : Nat) (cs : CS) (x0 : Nat) (x1 : Int32) : Option Int32 := if x1 < 0 then (c_X8_holds_b26 F cs ) else (Option.bind (gA cs 9 288 x0) fun v_3 => Option.bind (lnA cs 288 x0 v_3) fun v_4 => if v_4 ≤ x1 then (c_X8_holds_b26 F cs ) else (Option.bind (gA cs 9 289 x0) fun v_6 => Option.bind (lnA cs 289 x0 v_6) fun v_7 => if v_7 ≤ x1 then (c_X8_holds_b26 F cs ) else (c_X8_holds_b27 F cs 1)))
theorem cw_X8_X8_holds {R : Room} {s : State} {args : Array Value} {y0 : MethodName} {c0 : ByteArray} {n0 : Nat} {r0 : Option FieldType} (hts : ∀ w ∈ wsOf y0 c0 n0 r0, w.before args s = true) {fr : Nat} (h1 : fr + 1 ≤ R.frames) (h2 : 8 + (2 + 11) + 60 * fr ≤ R.locals) : CallW R s args RX8 RX8 35 yX8_holds cX8_holds 2 (some .boolean) (wsOf yX8_holds cX8_holds 2 (some .boolean)) ({ frames := fr, cells := 0, slots := 0, locals := 60 * fr } : Room) 0 0 1 := cwV 1 hts (gd_all (in_V kw_1359 kw_1361 kw_67 kw_188 kc_X8_holds)) rfl rfl rfl (by decide +kernel) ⟨h1, h2⟩
set_option maxHeartbeats 4000000 in
set_option maxRecDepth 100000 in
theorem sc_X8_holds (l : Launch) (dC : Nat → ClassId) (dI : Nat → Nat → Nat) (cB cI cJ cZ cS cO : ClassId) (b : Nat) (K V : Nat → Nat) (fz : Value) (F : Nat) (cs : CS) (x0 : Nat) (x1 : Int32) (r9 : Int32) (hf : c_X8_holds F cs x0 x1 = some r9) : ocI l dC dI cB cI cJ cZ cS cO b K V fz yX8_holds (wsOf yX8_holds cX8_holds 2 (some .boolean)) (0) [.ref (b + x0), .int x1] cs cs r9 := by
  intro sz
  refine Met.ofW (cc := cX8_holds) (maxL := 2) (ret := (some .boolean)) (by decide) rfl ?_
  intro p e s m args below meth c s₁ B hml hv
  obtain ⟨rfl, hsz, hP, hK, hD0, hZ⟩ := hv
  have hx := B.exec
  have hb := B.bytes
  have hr := B.returns
  have hts := atoms_spec (ws := (wsOf yX8_holds cX8_holds 2 (some .boolean))) B.pre
  have hown : s.vm.findClass RX8 = some m.cls := findClass_of_methodNamed B.named
  have hlocks := B.notSynchronized
  subst hsz
  have hD := hD0.self (sz := s.heap.size)
  generalize hAe : va_A (cW cB cI cJ cZ cS cO b cs) s.heap.size = A at hD hZ ⊢
  have hA : ∀ q : Nat, s.heap.size ≤ q → A q := fun q h => by rw [← hAe]; exact Or.inr h
  have hS : va_S A s.heap s.heap [] := va_S.rf
  have hl := lv_entry ([.ref (b + x0), .int x1]) (n := 2) (Nat.le_of_ble_eq_true rfl)
  rw [lg_entry_eq]
  generalize (lg_sl ([.ref (b + x0), .int x1]) ++ List.replicate (2 - (lg_sl ([.ref (b + x0), .int x1])).length) Slot.unset).toArray = ls at hl ⊢
  have hl : lv_has ls 2 [(0, .ref (b + x0)), (1, .int x1)] := hl
  have B_27 : ∀ (y0 : Int32), c_X8_holds_b27 F cs y0 = some r9 → ∀ (H : Heap) (locs : List Loc) (ls : Array Slot), va_P (dC, dI) vwCl (cW cB cI cJ cZ cS cO b cs) H → va_D A (cW cB cI cJ cZ cS cO b cs) → va_S A s.heap H locs → lv_has ls 2 [] → W p l e (headSpec (wsOf yX8_holds cX8_holds 2 (some .boolean)) ({ frames := 0, cells := 0, slots := 0, locals := 60 * (0) } : Room)).room s m ([.ref (b + x0), .int x1] : List Value).toArray below meth c H locs 0 0 (MQ below (va_Qi (fun (x : Int32) (_ : Unit) => x = r9) (fun _ t_ => va_P (dC, dI) vwCl (cW cB cI cJ cZ cS cO b cs) t_.heap ∧ va_D A (cW cB cI cJ cZ cS cO b cs)) A) ([.ref (b + x0), .int x1] : List Value).toArray s 0 0 A) (F0 m 27 ls [.int y0]) := by
    intro y0 h H locs ls hP hD hS hl
    unfold c_X8_holds_b27 at h
    replace h := ob h; obtain ⟨w_1, hw_1, h⟩ := h
    have e2 := Option.some.inj h
    exact W.zret (v := y0) hx hb hr (nzN (ckZ_some hw_1)) (fun t_ ht hW => ⟨⟨y0, (), rfl, e2, by rw [ht]; exact hP, hD⟩, hS.F ht⟩) hS.2.2 dX8_holds_27
  have B_26 : c_X8_holds_b26 F cs = some r9 → ∀ (H : Heap) (locs : List Loc) (ls : Array Slot), va_P (dC, dI) vwCl (cW cB cI cJ cZ cS cO b cs) H → va_D A (cW cB cI cJ cZ cS cO b cs) → va_S A s.heap H locs → lv_has ls 2 [] → W p l e (headSpec (wsOf yX8_holds cX8_holds 2 (some .boolean)) ({ frames := 0, cells := 0, slots := 0, locals := 60 * (0) } : Room)).room s m ([.ref (b + x0), .int x1] : List Value).toArray below meth c H locs 0 0 (MQ below (va_Qi (fun (x : Int32) (_ : Unit) => x = r9) (fun _ t_ => va_P (dC, dI) vwCl (cW cB cI cJ cZ cS cO b cs) t_.heap ∧ va_D A (cW cB cI cJ cZ cS cO b cs)) A) ([.ref (b + x0), .int x1] : List Value).toArray s 0 0 A) (F0 m 26 ls []) := by
    intro  h H locs ls hP hD hS hl
    unfold c_X8_holds_b26 at h
    refine lv_iconst (v := 0) hx hb dX8_holds_26 (by decide) ?_
    exact B_27 0 h _ _ _ hP hD hS (lv_sub hl [] rfl)
  have h := hf
  unfold c_X8_holds at h
  refine lv_iload_n hx hb dX8_holds_0 rfl (lv_at hl 1 rfl) ?_
  refine lv_if_lt (tgt := 26) hx hb dX8_holds_1 (by decide) (fun c_2 => ?_) (fun c_2 => ?_)
  · skip
    replace h := (if_pos c_2).symm.trans h
    exact B_26  h _ _ _ hP hD hS (lv_sub hl [] rfl)
  · skip
    replace h := (if_neg c_2).symm.trans h
    refine lv_iload_n hx hb dX8_holds_4 rfl (lv_at hl 1 rfl) ?_
    refine lv_aload_n hx hb dX8_holds_5 rfl (lv_at hl 0 rfl) ?_
    replace h := ob h; obtain ⟨v_3, hv_3, h⟩ := h
    refine fg_X8_11 hx hb hts hown hK hP hv_3 dX8_holds_6 ?_
    replace h := ob h; obtain ⟨v_4, hv_4, h⟩ := h
    refine alen2 hx hb hK hP rfl hv_4 dX8_holds_9 ?_
    refine lv_icmp_ge (tgt := 26) hx hb dX8_holds_10 (by decide) (fun c_5 => ?_) (fun c_5 => ?_)
    · skip
      replace h := (if_pos c_5).symm.trans h
      exact B_26  h _ _ _ hP hD hS (lv_sub hl [] rfl)
    · skip
      replace h := (if_neg c_5).symm.trans h
      refine lv_iload_n hx hb dX8_holds_13 rfl (lv_at hl 1 rfl) ?_
      refine lv_aload_n hx hb dX8_holds_14 rfl (lv_at hl 0 rfl) ?_
      replace h := ob h; obtain ⟨v_6, hv_6, h⟩ := h
      refine fg_X8_15 hx hb hts hown hK hP hv_6 dX8_holds_15 ?_
      replace h := ob h; obtain ⟨v_7, hv_7, h⟩ := h
      refine alen1 hx hb hK hP rfl hv_7 dX8_holds_18 ?_
      refine lv_icmp_ge (tgt := 26) hx hb dX8_holds_19 (by decide) (fun c_8 => ?_) (fun c_8 => ?_)
      · skip
        replace h := (if_pos c_8).symm.trans h
        exact B_26  h _ _ _ hP hD hS (lv_sub hl [] rfl)
      · skip
        replace h := (if_neg c_8).symm.trans h
        refine lv_iconst (v := 1) hx hb dX8_holds_22 (by decide) ?_
        refine lv_goto (tgt := 27) hx hb dX8_holds_23 (by decide) ?_
        exact B_27 1 h _ _ _ hP hD hS (lv_sub hl [] rfl)
theorem dX8_valueOf_0 : decode cX8_valueOf 0 = .ok (.aload_n 0, 1) := by decide +kernel
theorem dX8_valueOf_1 : decode cX8_valueOf 1 = .ok (.iload_n 1, 1) := by decide +kernel
theorem dX8_valueOf_2 : decode cX8_valueOf 2 = .ok (.invokevirtual 35, 3) := by decide +kernel
theorem dX8_valueOf_5 : decode cX8_valueOf 5 = .ok (.ifCond .eq 12, 3) := by decide +kernel
theorem dX8_valueOf_8 : decode cX8_valueOf 8 = .ok (.aload_n 0, 1) := by decide +kernel
theorem dX8_valueOf_9 : decode cX8_valueOf 9 = .ok (.getfield 11, 3) := by decide +kernel
theorem dX8_valueOf_12 : decode cX8_valueOf 12 = .ok (.iload_n 1, 1) := by decide +kernel
theorem dX8_valueOf_13 : decode cX8_valueOf 13 = .ok (.laload, 1) := by decide +kernel
theorem dX8_valueOf_14 : decode cX8_valueOf 14 = .ok (.goto 4, 3) := by decide +kernel
theorem dX8_valueOf_17 : decode cX8_valueOf 17 = .ok (.lconst 0, 1) := by decide +kernel
theorem dX8_valueOf_18 : decode cX8_valueOf 18 = .ok (.lreturn, 1) := by decide +kernel
def c_X8_valueOf_b18 (F : Nat) (cs : CS) (y0 : Int64) : Option Int64 := some y0
def c_X8_valueOf (F : Nat) (cs : CS) (x0 : Nat) (x1 : Int32) : Option Int64 := Option.bind (ckE cs 9 x0) fun _ => Option.bind (c_X8_holds F cs x0 x1) fun v_1 => if v_1 = 0 then (c_X8_valueOf_b18 F cs 0) else (Option.bind (gA cs 9 288 x0) fun v_4 => Option.bind (rB cs 288 x0 v_4 x1) fun v_5 => c_X8_valueOf_b18 F cs v_5)
theorem cw_X1_X8_valueOf {R : Room} {s : State} {args : Array Value} {y0 : MethodName} {c0 : ByteArray} {n0 : Nat} {r0 : Option FieldType} (hts : ∀ w ∈ wsOf y0 c0 n0 r0, w.before args s = true) {fr : Nat} (h1 : fr + 1 ≤ R.frames) (h2 : 8 + (2 + 11) + 60 * fr ≤ R.locals) : CallW R s args RX1 RX8 70 yX8_valueOf cX8_valueOf 2 (some .long) (wsOf yX8_valueOf cX8_valueOf 2 (some .long)) ({ frames := fr, cells := 0, slots := 0, locals := 60 * fr } : Room) 0 0 1 := cwV 1 hts (gd_all (in_V kw_1422 kw_1423 kw_1424 kw_188 kc_X8_valueOf)) rfl rfl rfl (by decide +kernel) ⟨h1, h2⟩
theorem cw_X4_X8_valueOf {R : Room} {s : State} {args : Array Value} {y0 : MethodName} {c0 : ByteArray} {n0 : Nat} {r0 : Option FieldType} (hts : ∀ w ∈ wsOf y0 c0 n0 r0, w.before args s = true) {fr : Nat} (h1 : fr + 1 ≤ R.frames) (h2 : 8 + (2 + 11) + 60 * fr ≤ R.locals) : CallW R s args RX4 RX8 264 yX8_valueOf cX8_valueOf 2 (some .long) (wsOf yX8_valueOf cX8_valueOf 2 (some .long)) ({ frames := fr, cells := 0, slots := 0, locals := 60 * fr } : Room) 0 0 1 := cwV 1 hts (gd_all (in_V kw_1519 kw_1423 kw_1424 kw_188 kc_X8_valueOf)) rfl rfl rfl (by decide +kernel) ⟨h1, h2⟩
theorem cw_X11_X8_valueOf {R : Room} {s : State} {args : Array Value} {y0 : MethodName} {c0 : ByteArray} {n0 : Nat} {r0 : Option FieldType} (hts : ∀ w ∈ wsOf y0 c0 n0 r0, w.before args s = true) {fr : Nat} (h1 : fr + 1 ≤ R.frames) (h2 : 8 + (2 + 11) + 60 * fr ≤ R.locals) : CallW R s args RX11 RX8 154 yX8_valueOf cX8_valueOf 2 (some .long) (wsOf yX8_valueOf cX8_valueOf 2 (some .long)) ({ frames := fr, cells := 0, slots := 0, locals := 60 * fr } : Room) 0 0 1 := cwV 1 hts (gd_all (in_V kw_1628 kw_1423 kw_1424 kw_188 kc_X8_valueOf)) rfl rfl rfl (by decide +kernel) ⟨h1, h2⟩
set_option maxHeartbeats 4000000 in
set_option maxRecDepth 100000 in
theorem sc_X8_valueOf (l : Launch) (dC : Nat → ClassId) (dI : Nat → Nat → Nat) (cB cI cJ cZ cS cO : ClassId) (b : Nat) (K V : Nat → Nat) (fz : Value) (F : Nat) (cs : CS) (x0 : Nat) (x1 : Int32) (r9 : Int64) (hf : c_X8_valueOf F cs x0 x1 = some r9) : ocL l dC dI cB cI cJ cZ cS cO b K V fz yX8_valueOf (wsOf yX8_valueOf cX8_valueOf 2 (some .long)) (1) [.ref (b + x0), .int x1] cs cs r9 := by
  intro sz
  refine Met.ofW (cc := cX8_valueOf) (maxL := 2) (ret := (some .long)) (by decide) rfl ?_
  intro p e s m args below meth c s₁ B hml hv
  obtain ⟨rfl, hsz, hP, hK, hD0, hZ⟩ := hv
  have hx := B.exec
  have hb := B.bytes
  have hr := B.returns
  have hts := atoms_spec (ws := (wsOf yX8_valueOf cX8_valueOf 2 (some .long))) B.pre
  have hown : s.vm.findClass RX8 = some m.cls := findClass_of_methodNamed B.named
  have hlocks := B.notSynchronized
  subst hsz
  have hD := hD0.self (sz := s.heap.size)
  generalize hAe : va_A (cW cB cI cJ cZ cS cO b cs) s.heap.size = A at hD hZ ⊢
  have hA : ∀ q : Nat, s.heap.size ≤ q → A q := fun q h => by rw [← hAe]; exact Or.inr h
  have hS : va_S A s.heap s.heap [] := va_S.rf
  have hl := lv_entry ([.ref (b + x0), .int x1]) (n := 2) (Nat.le_of_ble_eq_true rfl)
  rw [lg_entry_eq]
  generalize (lg_sl ([.ref (b + x0), .int x1]) ++ List.replicate (2 - (lg_sl ([.ref (b + x0), .int x1])).length) Slot.unset).toArray = ls at hl ⊢
  have hl : lv_has ls 2 [(0, .ref (b + x0)), (1, .int x1)] := hl
  have B_18 : ∀ (y0 : Int64), c_X8_valueOf_b18 F cs y0 = some r9 → ∀ (H : Heap) (locs : List Loc) (ls : Array Slot), va_P (dC, dI) vwCl (cW cB cI cJ cZ cS cO b cs) H → va_D A (cW cB cI cJ cZ cS cO b cs) → va_S A s.heap H locs → lv_has ls 2 [] → W p l e (headSpec (wsOf yX8_valueOf cX8_valueOf 2 (some .long)) ({ frames := 1, cells := 0, slots := 0, locals := 60 * (1) } : Room)).room s m ([.ref (b + x0), .int x1] : List Value).toArray below meth c H locs 0 0 (MQ below (va_Ql (fun (x : Int64) (_ : Unit) => x = r9) (fun _ t_ => va_P (dC, dI) vwCl (cW cB cI cJ cZ cS cO b cs) t_.heap ∧ va_D A (cW cB cI cJ cZ cS cO b cs)) A) ([.ref (b + x0), .int x1] : List Value).toArray s 0 0 A) (F0 m 18 ls [.long y0]) := by
    intro y0 h H locs ls hP hD hS hl
    unfold c_X8_valueOf_b18 at h
    have e2 := Option.some.inj h
    exact W.lret (v := y0) hx hb hr (fun t_ ht hW => ⟨⟨y0, (), rfl, e2, by rw [ht]; exact hP, hD⟩, hS.F ht⟩) hS.2.2 dX8_valueOf_18
  have h := hf
  unfold c_X8_valueOf at h
  refine lv_aload_n hx hb dX8_valueOf_0 rfl (lv_at hl 0 rfl) ?_
  refine lv_iload_n hx hb dX8_valueOf_1 rfl (lv_at hl 1 rfl) ?_
  replace h := ob h; obtain ⟨w_2, hw_2, h⟩ := h
  replace h := ob h; obtain ⟨v_1, hv_1, h⟩ := h
  refine ccI (As := [.int x1]) hx hb hml hts hown hK hP hD hS hA hZ (X := 9) (by decide) rfl (ckE_some hw_2) (sc_X8_holds l dC dI cB cI cJ cZ cS cO b K V fz F cs x0 x1 v_1 hv_1) (cw_X8_X8_holds hts (fr := 0) (Nat.le_of_ble_eq_true rfl) (Nat.le_of_ble_eq_true rfl)) rfl hl.1 (Nat.le_of_ble_eq_true rfl) ⟨Nat.zero_le _, Nat.zero_le _⟩ dX8_valueOf_2 (fun H locs hP hD hS => ?_)
  refine lv_if_eq (tgt := 17) hx hb dX8_valueOf_5 (by decide) (fun c_3 => ?_) (fun c_3 => ?_)
  · skip
    replace h := (if_pos c_3).symm.trans h
    refine lv_lconst (v := 0) hx hb dX8_valueOf_17 (by decide) ?_
    exact B_18 0 h _ _ _ hP hD hS (lv_sub hl [] rfl)
  · skip
    replace h := (if_neg c_3).symm.trans h
    refine lv_aload_n hx hb dX8_valueOf_8 rfl (lv_at hl 0 rfl) ?_
    replace h := ob h; obtain ⟨v_4, hv_4, h⟩ := h
    refine fg_X8_11 hx hb hts hown hK hP hv_4 dX8_valueOf_9 ?_
    refine lv_iload_n hx hb dX8_valueOf_12 rfl (lv_at hl 1 rfl) ?_
    replace h := ob h; obtain ⟨v_5, hv_5, h⟩ := h
    refine ald2 hx hb hK hP rfl hv_5 dX8_valueOf_13 ?_
    refine lv_goto (tgt := 18) hx hb dX8_valueOf_14 (by decide) ?_
    exact B_18 v_5 h _ _ _ hP hD hS (lv_sub hl [] rfl)
theorem dX8_isBlank_0 : decode cX8_isBlank 0 = .ok (.aload_n 0, 1) := by decide +kernel
theorem dX8_isBlank_1 : decode cX8_isBlank 1 = .ok (.iload_n 1, 1) := by decide +kernel
theorem dX8_isBlank_2 : decode cX8_isBlank 2 = .ok (.invokevirtual 35, 3) := by decide +kernel
theorem dX8_isBlank_5 : decode cX8_isBlank 5 = .ok (.ifCond .eq 12, 3) := by decide +kernel
theorem dX8_isBlank_8 : decode cX8_isBlank 8 = .ok (.aload_n 0, 1) := by decide +kernel
theorem dX8_isBlank_9 : decode cX8_isBlank 9 = .ok (.getfield 15, 3) := by decide +kernel
theorem dX8_isBlank_12 : decode cX8_isBlank 12 = .ok (.iload_n 1, 1) := by decide +kernel
theorem dX8_isBlank_13 : decode cX8_isBlank 13 = .ok (.baload, 1) := by decide +kernel
theorem dX8_isBlank_14 : decode cX8_isBlank 14 = .ok (.ifCond .eq 7, 3) := by decide +kernel
theorem dX8_isBlank_17 : decode cX8_isBlank 17 = .ok (.iconst 1, 1) := by decide +kernel
theorem dX8_isBlank_18 : decode cX8_isBlank 18 = .ok (.goto 4, 3) := by decide +kernel
theorem dX8_isBlank_21 : decode cX8_isBlank 21 = .ok (.iconst 0, 1) := by decide +kernel
theorem dX8_isBlank_22 : decode cX8_isBlank 22 = .ok (.ireturn, 1) := by decide +kernel
def c_X8_isBlank_b22 (F : Nat) (cs : CS) (y0 : Int32) : Option Int32 := Option.bind (ckZ y0) fun _ => some y0
def c_X8_isBlank_b17 (F : Nat) (cs : CS) : Option Int32 := c_X8_isBlank_b22 F cs 1
def c_X8_isBlank (F : Nat) (cs : CS) (x0 : Nat) (x1 : Int32) : Option Int32 := Option.bind (ckE cs 9 x0) fun _ => Option.bind (c_X8_holds F cs x0 x1) fun v_2 => if v_2 = 0 then (c_X8_isBlank_b17 F cs ) else (Option.bind (gA cs 9 289 x0) fun v_5 => Option.bind (rA cs 289 x0 v_5 x1) fun v_6 => if v_6 = 0 then (c_X8_isBlank_b22 F cs 0) else (c_X8_isBlank_b17 F cs ))
theorem cw_X1_X8_isBlank {R : Room} {s : State} {args : Array Value} {y0 : MethodName} {c0 : ByteArray} {n0 : Nat} {r0 : Option FieldType} (hts : ∀ w ∈ wsOf y0 c0 n0 r0, w.before args s = true) {fr : Nat} (h1 : fr + 1 ≤ R.frames) (h2 : 8 + (2 + 11) + 60 * fr ≤ R.locals) : CallW R s args RX1 RX8 76 yX8_isBlank cX8_isBlank 2 (some .boolean) (wsOf yX8_isBlank cX8_isBlank 2 (some .boolean)) ({ frames := fr, cells := 0, slots := 0, locals := 60 * fr } : Room) 0 0 1 := cwV 1 hts (gd_all (in_V kw_1426 kw_1427 kw_1428 kw_188 kc_X8_isBlank)) rfl rfl rfl (by decide +kernel) ⟨h1, h2⟩
theorem cw_X4_X8_isBlank {R : Room} {s : State} {args : Array Value} {y0 : MethodName} {c0 : ByteArray} {n0 : Nat} {r0 : Option FieldType} (hts : ∀ w ∈ wsOf y0 c0 n0 r0, w.before args s = true) {fr : Nat} (h1 : fr + 1 ≤ R.frames) (h2 : 8 + (2 + 11) + 60 * fr ≤ R.locals) : CallW R s args RX4 RX8 261 yX8_isBlank cX8_isBlank 2 (some .boolean) (wsOf yX8_isBlank cX8_isBlank 2 (some .boolean)) ({ frames := fr, cells := 0, slots := 0, locals := 60 * fr } : Room) 0 0 1 := cwV 1 hts (gd_all (in_V kw_1518 kw_1427 kw_1428 kw_188 kc_X8_isBlank)) rfl rfl rfl (by decide +kernel) ⟨h1, h2⟩
theorem cw_X11_X8_isBlank {R : Room} {s : State} {args : Array Value} {y0 : MethodName} {c0 : ByteArray} {n0 : Nat} {r0 : Option FieldType} (hts : ∀ w ∈ wsOf y0 c0 n0 r0, w.before args s = true) {fr : Nat} (h1 : fr + 1 ≤ R.frames) (h2 : 8 + (2 + 11) + 60 * fr ≤ R.locals) : CallW R s args RX11 RX8 158 yX8_isBlank cX8_isBlank 2 (some .boolean) (wsOf yX8_isBlank cX8_isBlank 2 (some .boolean)) ({ frames := fr, cells := 0, slots := 0, locals := 60 * fr } : Room) 0 0 1 := cwV 1 hts (gd_all (in_V kw_1633 kw_1427 kw_1428 kw_188 kc_X8_isBlank)) rfl rfl rfl (by decide +kernel) ⟨h1, h2⟩
set_option maxHeartbeats 4000000 in
set_option maxRecDepth 100000 in
theorem sc_X8_isBlank (l : Launch) (dC : Nat → ClassId) (dI : Nat → Nat → Nat) (cB cI cJ cZ cS cO : ClassId) (b : Nat) (K V : Nat → Nat) (fz : Value) (F : Nat) (cs : CS) (x0 : Nat) (x1 : Int32) (r9 : Int32) (hf : c_X8_isBlank F cs x0 x1 = some r9) : ocI l dC dI cB cI cJ cZ cS cO b K V fz yX8_isBlank (wsOf yX8_isBlank cX8_isBlank 2 (some .boolean)) (1) [.ref (b + x0), .int x1] cs cs r9 := by
  intro sz
  refine Met.ofW (cc := cX8_isBlank) (maxL := 2) (ret := (some .boolean)) (by decide) rfl ?_
  intro p e s m args below meth c s₁ B hml hv
  obtain ⟨rfl, hsz, hP, hK, hD0, hZ⟩ := hv
  have hx := B.exec
  have hb := B.bytes
  have hr := B.returns
  have hts := atoms_spec (ws := (wsOf yX8_isBlank cX8_isBlank 2 (some .boolean))) B.pre
  have hown : s.vm.findClass RX8 = some m.cls := findClass_of_methodNamed B.named
  have hlocks := B.notSynchronized
  subst hsz
  have hD := hD0.self (sz := s.heap.size)
  generalize hAe : va_A (cW cB cI cJ cZ cS cO b cs) s.heap.size = A at hD hZ ⊢
  have hA : ∀ q : Nat, s.heap.size ≤ q → A q := fun q h => by rw [← hAe]; exact Or.inr h
  have hS : va_S A s.heap s.heap [] := va_S.rf
  have hl := lv_entry ([.ref (b + x0), .int x1]) (n := 2) (Nat.le_of_ble_eq_true rfl)
  rw [lg_entry_eq]
  generalize (lg_sl ([.ref (b + x0), .int x1]) ++ List.replicate (2 - (lg_sl ([.ref (b + x0), .int x1])).length) Slot.unset).toArray = ls at hl ⊢
  have hl : lv_has ls 2 [(0, .ref (b + x0)), (1, .int x1)] := hl
  have B_22 : ∀ (y0 : Int32), c_X8_isBlank_b22 F cs y0 = some r9 → ∀ (H : Heap) (locs : List Loc) (ls : Array Slot), va_P (dC, dI) vwCl (cW cB cI cJ cZ cS cO b cs) H → va_D A (cW cB cI cJ cZ cS cO b cs) → va_S A s.heap H locs → lv_has ls 2 [] → W p l e (headSpec (wsOf yX8_isBlank cX8_isBlank 2 (some .boolean)) ({ frames := 1, cells := 0, slots := 0, locals := 60 * (1) } : Room)).room s m ([.ref (b + x0), .int x1] : List Value).toArray below meth c H locs 0 0 (MQ below (va_Qi (fun (x : Int32) (_ : Unit) => x = r9) (fun _ t_ => va_P (dC, dI) vwCl (cW cB cI cJ cZ cS cO b cs) t_.heap ∧ va_D A (cW cB cI cJ cZ cS cO b cs)) A) ([.ref (b + x0), .int x1] : List Value).toArray s 0 0 A) (F0 m 22 ls [.int y0]) := by
    intro y0 h H locs ls hP hD hS hl
    unfold c_X8_isBlank_b22 at h
    replace h := ob h; obtain ⟨w_1, hw_1, h⟩ := h
    have e2 := Option.some.inj h
    exact W.zret (v := y0) hx hb hr (nzN (ckZ_some hw_1)) (fun t_ ht hW => ⟨⟨y0, (), rfl, e2, by rw [ht]; exact hP, hD⟩, hS.F ht⟩) hS.2.2 dX8_isBlank_22
  have B_17 : c_X8_isBlank_b17 F cs = some r9 → ∀ (H : Heap) (locs : List Loc) (ls : Array Slot), va_P (dC, dI) vwCl (cW cB cI cJ cZ cS cO b cs) H → va_D A (cW cB cI cJ cZ cS cO b cs) → va_S A s.heap H locs → lv_has ls 2 [] → W p l e (headSpec (wsOf yX8_isBlank cX8_isBlank 2 (some .boolean)) ({ frames := 1, cells := 0, slots := 0, locals := 60 * (1) } : Room)).room s m ([.ref (b + x0), .int x1] : List Value).toArray below meth c H locs 0 0 (MQ below (va_Qi (fun (x : Int32) (_ : Unit) => x = r9) (fun _ t_ => va_P (dC, dI) vwCl (cW cB cI cJ cZ cS cO b cs) t_.heap ∧ va_D A (cW cB cI cJ cZ cS cO b cs)) A) ([.ref (b + x0), .int x1] : List Value).toArray s 0 0 A) (F0 m 17 ls []) := by
    intro  h H locs ls hP hD hS hl
    unfold c_X8_isBlank_b17 at h
    refine lv_iconst (v := 1) hx hb dX8_isBlank_17 (by decide) ?_
    refine lv_goto (tgt := 22) hx hb dX8_isBlank_18 (by decide) ?_
    exact B_22 1 h _ _ _ hP hD hS (lv_sub hl [] rfl)
  have h := hf
  unfold c_X8_isBlank at h
  refine lv_aload_n hx hb dX8_isBlank_0 rfl (lv_at hl 0 rfl) ?_
  refine lv_iload_n hx hb dX8_isBlank_1 rfl (lv_at hl 1 rfl) ?_
  replace h := ob h; obtain ⟨w_3, hw_3, h⟩ := h
  replace h := ob h; obtain ⟨v_2, hv_2, h⟩ := h
  refine ccI (As := [.int x1]) hx hb hml hts hown hK hP hD hS hA hZ (X := 9) (by decide) rfl (ckE_some hw_3) (sc_X8_holds l dC dI cB cI cJ cZ cS cO b K V fz F cs x0 x1 v_2 hv_2) (cw_X8_X8_holds hts (fr := 0) (Nat.le_of_ble_eq_true rfl) (Nat.le_of_ble_eq_true rfl)) rfl hl.1 (Nat.le_of_ble_eq_true rfl) ⟨Nat.zero_le _, Nat.zero_le _⟩ dX8_isBlank_2 (fun H locs hP hD hS => ?_)
  refine lv_if_eq (tgt := 17) hx hb dX8_isBlank_5 (by decide) (fun c_4 => ?_) (fun c_4 => ?_)
  · skip
    replace h := (if_pos c_4).symm.trans h
    exact B_17  h _ _ _ hP hD hS (lv_sub hl [] rfl)
  · skip
    replace h := (if_neg c_4).symm.trans h
    refine lv_aload_n hx hb dX8_isBlank_8 rfl (lv_at hl 0 rfl) ?_
    replace h := ob h; obtain ⟨v_5, hv_5, h⟩ := h
    refine fg_X8_15 hx hb hts hown hK hP hv_5 dX8_isBlank_9 ?_
    refine lv_iload_n hx hb dX8_isBlank_12 rfl (lv_at hl 1 rfl) ?_
    replace h := ob h; obtain ⟨v_6, hv_6, h⟩ := h
    refine ald1 hx hb hK hP rfl hv_6 dX8_isBlank_13 ?_
    refine lv_if_eq (tgt := 21) hx hb dX8_isBlank_14 (by decide) (fun c_7 => ?_) (fun c_7 => ?_)
    · skip
      replace h := (if_pos c_7).symm.trans h
      refine lv_iconst (v := 0) hx hb dX8_isBlank_21 (by decide) ?_
      exact B_22 0 h _ _ _ hP hD hS (lv_sub hl [] rfl)
    · skip
      replace h := (if_neg c_7).symm.trans h
      exact B_17  h _ _ _ hP hD hS (lv_sub hl [] rfl)
theorem dX2_markBits_0 : decode cX2_markBits 0 = .ok (.iconst 0, 1) := by decide +kernel
theorem dX2_markBits_1 : decode cX2_markBits 1 = .ok (.istore_n 1, 1) := by decide +kernel
theorem dX2_markBits_2 : decode cX2_markBits 2 = .ok (.iconst 0, 1) := by decide +kernel
theorem dX2_markBits_3 : decode cX2_markBits 3 = .ok (.istore_n 2, 1) := by decide +kernel
theorem dX2_markBits_4 : decode cX2_markBits 4 = .ok (.iload_n 2, 1) := by decide +kernel
theorem dX2_markBits_5 : decode cX2_markBits 5 = .ok (.aload_n 0, 1) := by decide +kernel
theorem dX2_markBits_6 : decode cX2_markBits 6 = .ok (.getfield 25, 3) := by decide +kernel
theorem dX2_markBits_9 : decode cX2_markBits 9 = .ok (.if_icmp .ge 34, 3) := by decide +kernel
theorem dX2_markBits_12 : decode cX2_markBits 12 = .ok (.iload_n 2, 1) := by decide +kernel
theorem dX2_markBits_13 : decode cX2_markBits 13 = .ok (.bipush 8, 2) := by decide +kernel
theorem dX2_markBits_15 : decode cX2_markBits 15 = .ok (.if_icmp .ge 28, 3) := by decide +kernel
theorem dX2_markBits_18 : decode cX2_markBits 18 = .ok (.iload_n 1, 1) := by decide +kernel
theorem dX2_markBits_19 : decode cX2_markBits 19 = .ok (.aload_n 0, 1) := by decide +kernel
theorem dX2_markBits_20 : decode cX2_markBits 20 = .ok (.getfield 19, 3) := by decide +kernel
theorem dX2_markBits_23 : decode cX2_markBits 23 = .ok (.iload_n 2, 1) := by decide +kernel
theorem dX2_markBits_24 : decode cX2_markBits 24 = .ok (.iaload, 1) := by decide +kernel
theorem dX2_markBits_25 : decode cX2_markBits 25 = .ok (.ifCond .eq 9, 3) := by decide +kernel
theorem dX2_markBits_28 : decode cX2_markBits 28 = .ok (.iconst 1, 1) := by decide +kernel
theorem dX2_markBits_29 : decode cX2_markBits 29 = .ok (.iload_n 2, 1) := by decide +kernel
theorem dX2_markBits_30 : decode cX2_markBits 30 = .ok (.ishl, 1) := by decide +kernel
theorem dX2_markBits_31 : decode cX2_markBits 31 = .ok (.goto 4, 3) := by decide +kernel
theorem dX2_markBits_34 : decode cX2_markBits 34 = .ok (.iconst 0, 1) := by decide +kernel
theorem dX2_markBits_35 : decode cX2_markBits 35 = .ok (.ior, 1) := by decide +kernel
theorem dX2_markBits_36 : decode cX2_markBits 36 = .ok (.istore_n 1, 1) := by decide +kernel
theorem dX2_markBits_37 : decode cX2_markBits 37 = .ok (.iinc 2 1, 3) := by decide +kernel
theorem dX2_markBits_40 : decode cX2_markBits 40 = .ok (.goto (-36), 3) := by decide +kernel
theorem dX2_markBits_43 : decode cX2_markBits 43 = .ok (.iload_n 1, 1) := by decide +kernel
theorem dX2_markBits_44 : decode cX2_markBits 44 = .ok (.ireturn, 1) := by decide +kernel
def c_X2_markBits_b43 (F : Nat) (cs : CS) (u1 : Int32) : Option Int32 := some u1
def c_X2_markBits_b35 (F : Nat) (cs : CS) (rc4 : Nat → Int32 → Int32 → Option Int32) (u0 : Nat) (u2 : Int32) (y0 : Int32) (y1 : Int32) : Option Int32 := rc4 u0 (y1 ||| y0) (u2 + 1)
def c_X2_markBits_L4 (F : Nat) (cs : CS) : Nat → Nat → Int32 → Int32 → Option Int32
  | 0, _, _, _ => none
  | lf_4 + 1, u0, u1, u2 => Option.bind (gI cs 3 96 u0) fun v_1 => if v_1 ≤ u2 then (c_X2_markBits_b43 F cs u1) else (if 8 ≤ u2 then (c_X2_markBits_b43 F cs u1) else (Option.bind (gA cs 3 99 u0) fun v_4 => Option.bind (rA cs 99 u0 v_4 u2) fun v_5 => if v_5 = 0 then (c_X2_markBits_b35 F cs (c_X2_markBits_L4 F cs lf_4) u0 u2 0 u1) else (c_X2_markBits_b35 F cs (c_X2_markBits_L4 F cs lf_4) u0 u2 ((1 : Int32) <<< (u2 &&& 31)) u1)))
def c_X2_markBits (F : Nat) (cs : CS) (x0 : Nat) : Option Int32 := c_X2_markBits_L4 F cs F x0 0 0
theorem cw_X4_X2_markBits {R : Room} {s : State} {args : Array Value} {y0 : MethodName} {c0 : ByteArray} {n0 : Nat} {r0 : Option FieldType} (hts : ∀ w ∈ wsOf y0 c0 n0 r0, w.before args s = true) {fr : Nat} (h1 : fr + 1 ≤ R.frames) (h2 : 8 + (3 + 11) + 60 * fr ≤ R.locals) : CallW R s args RX4 RX2 97 yX2_markBits cX2_markBits 3 (some .int) (wsOf yX2_markBits cX2_markBits 3 (some .int)) ({ frames := fr, cells := 0, slots := 0, locals := 60 * fr } : Room) 0 0 0 := cwV 0 hts (gd_all (in_V kw_1545 kw_1546 kw_1547 kw_196 kc_X2_markBits)) rfl rfl rfl (by decide +kernel) ⟨h1, h2⟩
set_option maxHeartbeats 4000000 in
set_option maxRecDepth 100000 in
theorem sc_X2_markBits (l : Launch) (dC : Nat → ClassId) (dI : Nat → Nat → Nat) (cB cI cJ cZ cS cO : ClassId) (b : Nat) (K V : Nat → Nat) (fz : Value) (F : Nat) (cs : CS) (x0 : Nat) (r9 : Int32) (hf : c_X2_markBits F cs x0 = some r9) : ocI l dC dI cB cI cJ cZ cS cO b K V fz yX2_markBits (wsOf yX2_markBits cX2_markBits 3 (some .int)) (0) [.ref (b + x0)] cs cs r9 := by
  intro sz
  refine Met.ofW (cc := cX2_markBits) (maxL := 3) (ret := (some .int)) (by decide) rfl ?_
  intro p e s m args below meth c s₁ B hml hv
  obtain ⟨rfl, hsz, hP, hK, hD0, hZ⟩ := hv
  have hx := B.exec
  have hb := B.bytes
  have hr := B.returns
  have hts := atoms_spec (ws := (wsOf yX2_markBits cX2_markBits 3 (some .int))) B.pre
  have hown : s.vm.findClass RX2 = some m.cls := findClass_of_methodNamed B.named
  have hlocks := B.notSynchronized
  subst hsz
  have hD := hD0.self (sz := s.heap.size)
  generalize hAe : va_A (cW cB cI cJ cZ cS cO b cs) s.heap.size = A at hD hZ ⊢
  have hA : ∀ q : Nat, s.heap.size ≤ q → A q := fun q h => by rw [← hAe]; exact Or.inr h
  have hS : va_S A s.heap s.heap [] := va_S.rf
  have hl := lv_entry ([.ref (b + x0)]) (n := 3) (Nat.le_of_ble_eq_true rfl)
  rw [lg_entry_eq]
  generalize (lg_sl ([.ref (b + x0)]) ++ List.replicate (3 - (lg_sl ([.ref (b + x0)])).length) Slot.unset).toArray = ls at hl ⊢
  have hl : lv_has ls 3 [(0, .ref (b + x0))] := hl
  have B_43 : ∀ (u1 : Int32), c_X2_markBits_b43 F cs u1 = some r9 → ∀ (H : Heap) (locs : List Loc) (ls : Array Slot), va_P (dC, dI) vwCl (cW cB cI cJ cZ cS cO b cs) H → va_D A (cW cB cI cJ cZ cS cO b cs) → va_S A s.heap H locs → lv_has ls 3 [(1, .int u1)] → W p l e (headSpec (wsOf yX2_markBits cX2_markBits 3 (some .int)) ({ frames := 0, cells := 0, slots := 0, locals := 60 * (0) } : Room)).room s m ([.ref (b + x0)] : List Value).toArray below meth c H locs 0 0 (MQ below (va_Qi (fun (x : Int32) (_ : Unit) => x = r9) (fun _ t_ => va_P (dC, dI) vwCl (cW cB cI cJ cZ cS cO b cs) t_.heap ∧ va_D A (cW cB cI cJ cZ cS cO b cs)) A) ([.ref (b + x0)] : List Value).toArray s 0 0 A) (F0 m 43 ls []) := by
    intro u1 h H locs ls hP hD hS hl
    unfold c_X2_markBits_b43 at h
    refine lv_iload_n hx hb dX2_markBits_43 rfl (lv_at hl 0 rfl) ?_
    have e2 := Option.some.inj h
    exact W.iret (v := u1) hx hb hr (fun t_ ht hW => ⟨⟨u1, (), rfl, e2, by rw [ht]; exact hP, hD⟩, hS.F ht⟩) hS.2.2 dX2_markBits_44
  have L_4 : ∀ (lf_4 : Nat), ∀ (u0 : Nat) (u1 : Int32) (u2 : Int32), c_X2_markBits_L4 F cs lf_4 u0 u1 u2 = some r9 → ∀ (H : Heap) (locs : List Loc) (ls : Array Slot), va_P (dC, dI) vwCl (cW cB cI cJ cZ cS cO b cs) H → va_D A (cW cB cI cJ cZ cS cO b cs) → va_S A s.heap H locs → lv_has ls 3 [(0, .ref (b + u0)), (1, .int u1), (2, .int u2)] → W p l e (headSpec (wsOf yX2_markBits cX2_markBits 3 (some .int)) ({ frames := 0, cells := 0, slots := 0, locals := 60 * (0) } : Room)).room s m ([.ref (b + x0)] : List Value).toArray below meth c H locs 0 0 (MQ below (va_Qi (fun (x : Int32) (_ : Unit) => x = r9) (fun _ t_ => va_P (dC, dI) vwCl (cW cB cI cJ cZ cS cO b cs) t_.heap ∧ va_D A (cW cB cI cJ cZ cS cO b cs)) A) ([.ref (b + x0)] : List Value).toArray s 0 0 A) (F0 m 4 ls []) := by
    intro lf_4
    induction lf_4 with
    | zero => intro u0 u1 u2 h; cases (show (none : Option Int32) = _ from h)
    | succ lf_4 ih_4 =>
      have B_35 : ∀ (u0 : Nat) (u2 : Int32) (y0 : Int32) (y1 : Int32), c_X2_markBits_b35 F cs (c_X2_markBits_L4 F cs lf_4) u0 u2 y0 y1 = some r9 → ∀ (H : Heap) (locs : List Loc) (ls : Array Slot), va_P (dC, dI) vwCl (cW cB cI cJ cZ cS cO b cs) H → va_D A (cW cB cI cJ cZ cS cO b cs) → va_S A s.heap H locs → lv_has ls 3 [(0, .ref (b + u0)), (2, .int u2)] → W p l e (headSpec (wsOf yX2_markBits cX2_markBits 3 (some .int)) ({ frames := 0, cells := 0, slots := 0, locals := 60 * (0) } : Room)).room s m ([.ref (b + x0)] : List Value).toArray below meth c H locs 0 0 (MQ below (va_Qi (fun (x : Int32) (_ : Unit) => x = r9) (fun _ t_ => va_P (dC, dI) vwCl (cW cB cI cJ cZ cS cO b cs) t_.heap ∧ va_D A (cW cB cI cJ cZ cS cO b cs)) A) ([.ref (b + x0)] : List Value).toArray s 0 0 A) (F0 m 35 ls [.int y0, .int y1]) := by
        intro u0 u2 y0 y1 h H locs ls hP hD hS hl
        unfold c_X2_markBits_b35 at h
        refine lv_ior hx hb dX2_markBits_35 ?_
        refine lv_istore_n (lv' := [(1, .int (y1 ||| y0)), (0, .ref (b + u0)), (2, .int u2)]) hx hb dX2_markBits_36 rfl hl (by decide) rfl (fun ls hl => ?_)
        refine lv_iinc (v := u2 + 1) (lv' := [(2, .int (u2 + 1)), (1, .int (y1 ||| y0)), (0, .ref (b + u0))]) hx hb dX2_markBits_37 hl (k := 2) rfl rfl (by decide) rfl (fun ls hl => ?_)
        refine lv_goto (tgt := 4) hx hb dX2_markBits_40 (by decide) ?_
        exact ih_4 u0 (y1 ||| y0) (u2 + 1) h _ _ _ hP hD hS (lv_sub hl [2, 1, 0] rfl)
      intro u0 u1 u2 h H locs ls hP hD hS hl
      rw [c_X2_markBits_L4] at h
      refine lv_iload_n hx hb dX2_markBits_4 rfl (lv_at hl 2 rfl) ?_
      refine lv_aload_n hx hb dX2_markBits_5 rfl (lv_at hl 0 rfl) ?_
      replace h := ob h; obtain ⟨v_1, hv_1, h⟩ := h
      refine fg_X2_25 hx hb hts hown hK hP hv_1 dX2_markBits_6 ?_
      refine lv_icmp_ge (tgt := 43) hx hb dX2_markBits_9 (by decide) (fun c_2 => ?_) (fun c_2 => ?_)
      · skip
        replace h := (if_pos c_2).symm.trans h
        exact B_43 u1 h _ _ _ hP hD hS (lv_sub hl [1] rfl)
      · skip
        replace h := (if_neg c_2).symm.trans h
        refine lv_iload_n hx hb dX2_markBits_12 rfl (lv_at hl 2 rfl) ?_
        refine lv_bipush (v := 8) hx hb dX2_markBits_13 (by decide) ?_
        refine lv_icmp_ge (tgt := 43) hx hb dX2_markBits_15 (by decide) (fun c_3 => ?_) (fun c_3 => ?_)
        · skip
          replace h := (if_pos c_3).symm.trans h
          exact B_43 u1 h _ _ _ hP hD hS (lv_sub hl [1] rfl)
        · skip
          replace h := (if_neg c_3).symm.trans h
          refine lv_iload_n hx hb dX2_markBits_18 rfl (lv_at hl 1 rfl) ?_
          refine lv_aload_n hx hb dX2_markBits_19 rfl (lv_at hl 0 rfl) ?_
          replace h := ob h; obtain ⟨v_4, hv_4, h⟩ := h
          refine fg_X2_19 hx hb hts hown hK hP hv_4 dX2_markBits_20 ?_
          refine lv_iload_n hx hb dX2_markBits_23 rfl (lv_at hl 2 rfl) ?_
          replace h := ob h; obtain ⟨v_5, hv_5, h⟩ := h
          refine ald0 hx hb hK hP rfl hv_5 dX2_markBits_24 ?_
          refine lv_if_eq (tgt := 34) hx hb dX2_markBits_25 (by decide) (fun c_6 => ?_) (fun c_6 => ?_)
          · skip
            replace h := (if_pos c_6).symm.trans h
            refine lv_iconst (v := 0) hx hb dX2_markBits_34 (by decide) ?_
            exact B_35 u0 u2 0 u1 h _ _ _ hP hD hS (lv_sub hl [0, 2] rfl)
          · skip
            replace h := (if_neg c_6).symm.trans h
            refine lv_iconst (v := 1) hx hb dX2_markBits_28 (by decide) ?_
            refine lv_iload_n hx hb dX2_markBits_29 rfl (lv_at hl 2 rfl) ?_
            refine lv_ishl hx hb dX2_markBits_30 ?_
            refine lv_goto (tgt := 35) hx hb dX2_markBits_31 (by decide) ?_
            exact B_35 u0 u2 ((1 : Int32) <<< (u2 &&& 31)) u1 h _ _ _ hP hD hS (lv_sub hl [0, 2] rfl)
  have h := hf
  unfold c_X2_markBits at h
  refine lv_iconst (v := 0) hx hb dX2_markBits_0 (by decide) ?_
  refine lv_istore_n (lv' := [(1, .int 0), (0, .ref (b + x0))]) hx hb dX2_markBits_1 rfl hl (by decide) rfl (fun ls hl => ?_)
  refine lv_iconst (v := 0) hx hb dX2_markBits_2 (by decide) ?_
  refine lv_istore_n (lv' := [(2, .int 0), (1, .int 0), (0, .ref (b + x0))]) hx hb dX2_markBits_3 rfl hl (by decide) rfl (fun ls hl => ?_)
  exact L_4 F x0 0 0 h _ _ _ hP hD hS (lv_sub hl [2, 1, 0] rfl)
theorem dJ9_min_f86c9_0 : decode cJ9_min_f86c9 0 = .ok (.lload_n 0, 1) := by decide +kernel
theorem dJ9_min_f86c9_1 : decode cJ9_min_f86c9 1 = .ok (.lload_n 2, 1) := by decide +kernel
theorem dJ9_min_f86c9_2 : decode cJ9_min_f86c9 2 = .ok (.lcmp, 1) := by decide +kernel
theorem dJ9_min_f86c9_3 : decode cJ9_min_f86c9 3 = .ok (.ifCond .gt 7, 3) := by decide +kernel
theorem dJ9_min_f86c9_6 : decode cJ9_min_f86c9 6 = .ok (.lload_n 0, 1) := by decide +kernel
theorem dJ9_min_f86c9_7 : decode cJ9_min_f86c9 7 = .ok (.goto 4, 3) := by decide +kernel
theorem dJ9_min_f86c9_10 : decode cJ9_min_f86c9 10 = .ok (.lload_n 2, 1) := by decide +kernel
theorem dJ9_min_f86c9_11 : decode cJ9_min_f86c9 11 = .ok (.lreturn, 1) := by decide +kernel
set_option maxRecDepth 20000 in
theorem kc_J9_min_f86c9 : Cond.code yJ9_min_f86c9 cJ9_min_f86c9 4 (some .long) ∈ wsG := kGm (tab_5 (List.mem_of_getElem? (i := 4) rfl)) rfl
def c_J9_min_f86c9_b11 (F : Nat) (cs : CS) (y0 : Int64) : Option Int64 := some y0
def c_J9_min_f86c9 (F : Nat) (cs : CS) (x0 : Int64) (x2 : Int64) : Option Int64 := if x2 < x0 then (c_J9_min_f86c9_b11 F cs x2) else (c_J9_min_f86c9_b11 F cs x0)
theorem cw_X4_J9_min_f86c9 {R : Room} {s : State} {args : Array Value} {y0 : MethodName} {c0 : ByteArray} {n0 : Nat} {r0 : Option FieldType} (hts : ∀ w ∈ wsOf y0 c0 n0 r0, w.before args s = true) {fr : Nat} (h1 : fr + 1 ≤ R.frames) (h2 : 8 + (4 + 11) + 60 * fr ≤ R.locals) : CallB R s args RX4 268 yJ9_min_f86c9 cJ9_min_f86c9 4 (some .long) (wsOf yJ9_min_f86c9 cJ9_min_f86c9 4 (some .long)) ({ frames := fr, cells := 0, slots := 0, locals := 60 * fr } : Room) 0 0 2 ∧ (Cond.static yJ9_min_f86c9).before args s = true := ⟨callB_of 2 hts (gd_all (in_I kc_J9_min_f86c9)) rfl rfl rfl (hts _ (List.mem_cons_of_mem _ kw_190)) (hts _ (List.mem_cons_of_mem _ kw_1520)) (by decide +kernel) ⟨h1, h2⟩, hts _ (List.mem_cons_of_mem _ kw_1143)⟩
theorem cw_X9_J9_min_f86c9 {R : Room} {s : State} {args : Array Value} {y0 : MethodName} {c0 : ByteArray} {n0 : Nat} {r0 : Option FieldType} (hts : ∀ w ∈ wsOf y0 c0 n0 r0, w.before args s = true) {fr : Nat} (h1 : fr + 1 ≤ R.frames) (h2 : 8 + (4 + 11) + 60 * fr ≤ R.locals) : CallB R s args RX9 188 yJ9_min_f86c9 cJ9_min_f86c9 4 (some .long) (wsOf yJ9_min_f86c9 cJ9_min_f86c9 4 (some .long)) ({ frames := fr, cells := 0, slots := 0, locals := 60 * fr } : Room) 0 0 2 ∧ (Cond.static yJ9_min_f86c9).before args s = true := ⟨callB_of 2 hts (gd_all (in_I kc_J9_min_f86c9)) rfl rfl rfl (hts _ (List.mem_cons_of_mem _ kw_190)) (hts _ (List.mem_cons_of_mem _ kw_1142)) (by decide +kernel) ⟨h1, h2⟩, hts _ (List.mem_cons_of_mem _ kw_1143)⟩
set_option maxHeartbeats 4000000 in
set_option maxRecDepth 100000 in
theorem sc_J9_min_f86c9 (l : Launch) (dC : Nat → ClassId) (dI : Nat → Nat → Nat) (cB cI cJ cZ cS cO : ClassId) (b : Nat) (K V : Nat → Nat) (fz : Value) (F : Nat) (cs : CS) (x0 : Int64) (x2 : Int64) (r9 : Int64) (hf : c_J9_min_f86c9 F cs x0 x2 = some r9) : ocL l dC dI cB cI cJ cZ cS cO b K V fz yJ9_min_f86c9 (wsOf yJ9_min_f86c9 cJ9_min_f86c9 4 (some .long)) (0) [.long x0, .long x2] cs cs r9 := by
  intro sz
  refine va_MetF (cc := cJ9_min_f86c9) (maxL := 4) (ret := (some .long)) (by decide +kernel) rfl ?_
  intro p e s m args below meth c s₁ B hml hv
  obtain ⟨rfl, hsz, hP, hK, hD0, hZ⟩ := hv
  have hx := B.exec
  have hb := B.bytes
  have hr := B.returns
  have hts := atoms_spec (ws := (wsOf yJ9_min_f86c9 cJ9_min_f86c9 4 (some .long))) B.pre
  have hown : s.vm.findClass RJ9 = some m.cls := findClass_of_methodNamed B.named
  have hlocks := B.notSynchronized
  subst hsz
  have hD := hD0.self (sz := s.heap.size)
  generalize hAe : va_A (cW cB cI cJ cZ cS cO b cs) s.heap.size = A at hD hZ ⊢
  have hA : ∀ q : Nat, s.heap.size ≤ q → A q := fun q h => by rw [← hAe]; exact Or.inr h
  have hS : va_S A s.heap s.heap [] := va_S.rf
  have hl := lv_entry ([.long x0, .long x2]) (n := 4) (Nat.le_of_ble_eq_true rfl)
  rw [lg_entry_eq]
  generalize (lg_sl ([.long x0, .long x2]) ++ List.replicate (4 - (lg_sl ([.long x0, .long x2])).length) Slot.unset).toArray = ls at hl ⊢
  have hl : lv_has ls 4 [(0, .long x0), (2, .long x2)] := hl
  have B_11 : ∀ (y0 : Int64), c_J9_min_f86c9_b11 F cs y0 = some r9 → ∀ (H : Heap) (locs : List Loc) (ls : Array Slot), va_P (dC, dI) vwCl (cW cB cI cJ cZ cS cO b cs) H → va_D A (cW cB cI cJ cZ cS cO b cs) → va_S A s.heap H locs → lv_has ls 4 [] → W p l e (headSpec (wsOf yJ9_min_f86c9 cJ9_min_f86c9 4 (some .long)) ({ frames := 0, cells := 0, slots := 0, locals := 60 * (0) } : Room)).room s m ([.long x0, .long x2] : List Value).toArray below meth c H locs 0 0 (MQ below (va_Ql (fun (x : Int64) (_ : Unit) => x = r9) (fun _ t_ => va_P (dC, dI) vwCl (cW cB cI cJ cZ cS cO b cs) t_.heap ∧ va_D A (cW cB cI cJ cZ cS cO b cs)) A) ([.long x0, .long x2] : List Value).toArray s 0 0 A) (F0 m 11 ls [.long y0]) := by
    intro y0 h H locs ls hP hD hS hl
    unfold c_J9_min_f86c9_b11 at h
    have e2 := Option.some.inj h
    exact W.lret (v := y0) hx hb hr (fun t_ ht hW => ⟨⟨y0, (), rfl, e2, by rw [ht]; exact hP, hD⟩, hS.F ht⟩) hS.2.2 dJ9_min_f86c9_11
  have h := hf
  unfold c_J9_min_f86c9 at h
  refine lv_lload_n hx hb dJ9_min_f86c9_0 rfl (lv_at hl 0 rfl) ?_
  refine lv_lload_n hx hb dJ9_min_f86c9_1 rfl (lv_at hl 1 rfl) ?_
  refine W.lcmp hx hb dJ9_min_f86c9_2 ?_
  refine lv_if_gt (tgt := 10) hx hb dJ9_min_f86c9_3 (by decide) (fun c_1 => ?_) (fun c_1 => ?_)
  · skip
    have c_1 : x2 < x0 := (lg_cmp_gt _ _).mp c_1
    replace h := (if_pos c_1).symm.trans h
    refine lv_lload_n hx hb dJ9_min_f86c9_10 rfl (lv_at hl 1 rfl) ?_
    exact B_11 x2 h _ _ _ hP hD hS (lv_sub hl [] rfl)
  · skip
    have c_1 : ¬ (x2 < x0) := fun h9 => c_1 ((lg_cmp_gt _ _).mpr h9)
    replace h := (if_neg c_1).symm.trans h
    refine lv_lload_n hx hb dJ9_min_f86c9_6 rfl (lv_at hl 0 rfl) ?_
    refine lv_goto (tgt := 11) hx hb dJ9_min_f86c9_7 (by decide) ?_
    exact B_11 x0 h _ _ _ hP hD hS (lv_sub hl [] rfl)
theorem dJ9_max_f86c9_0 : decode cJ9_max_f86c9 0 = .ok (.lload_n 0, 1) := by decide +kernel
theorem dJ9_max_f86c9_1 : decode cJ9_max_f86c9 1 = .ok (.lload_n 2, 1) := by decide +kernel
theorem dJ9_max_f86c9_2 : decode cJ9_max_f86c9 2 = .ok (.lcmp, 1) := by decide +kernel
theorem dJ9_max_f86c9_3 : decode cJ9_max_f86c9 3 = .ok (.ifCond .lt 7, 3) := by decide +kernel
theorem dJ9_max_f86c9_6 : decode cJ9_max_f86c9 6 = .ok (.lload_n 0, 1) := by decide +kernel
theorem dJ9_max_f86c9_7 : decode cJ9_max_f86c9 7 = .ok (.goto 4, 3) := by decide +kernel
theorem dJ9_max_f86c9_10 : decode cJ9_max_f86c9 10 = .ok (.lload_n 2, 1) := by decide +kernel
theorem dJ9_max_f86c9_11 : decode cJ9_max_f86c9 11 = .ok (.lreturn, 1) := by decide +kernel
set_option maxRecDepth 20000 in
theorem kc_J9_max_f86c9 : Cond.code yJ9_max_f86c9 cJ9_max_f86c9 4 (some .long) ∈ wsG := kGm (tab_6 (List.mem_of_getElem? (i := 143) rfl)) rfl
def c_J9_max_f86c9_b11 (F : Nat) (cs : CS) (y0 : Int64) : Option Int64 := some y0
def c_J9_max_f86c9 (F : Nat) (cs : CS) (x0 : Int64) (x2 : Int64) : Option Int64 := if x0 < x2 then (c_J9_max_f86c9_b11 F cs x2) else (c_J9_max_f86c9_b11 F cs x0)
theorem cw_X4_J9_max_f86c9 {R : Room} {s : State} {args : Array Value} {y0 : MethodName} {c0 : ByteArray} {n0 : Nat} {r0 : Option FieldType} (hts : ∀ w ∈ wsOf y0 c0 n0 r0, w.before args s = true) {fr : Nat} (h1 : fr + 1 ≤ R.frames) (h2 : 8 + (4 + 11) + 60 * fr ≤ R.locals) : CallB R s args RX4 271 yJ9_max_f86c9 cJ9_max_f86c9 4 (some .long) (wsOf yJ9_max_f86c9 cJ9_max_f86c9 4 (some .long)) ({ frames := fr, cells := 0, slots := 0, locals := 60 * fr } : Room) 0 0 2 ∧ (Cond.static yJ9_max_f86c9).before args s = true := ⟨callB_of 2 hts (gd_all (in_I kc_J9_max_f86c9)) rfl rfl rfl (hts _ (List.mem_cons_of_mem _ kw_190)) (hts _ (List.mem_cons_of_mem _ kw_1521)) (by decide +kernel) ⟨h1, h2⟩, hts _ (List.mem_cons_of_mem _ kw_1522)⟩
set_option maxHeartbeats 4000000 in
set_option maxRecDepth 100000 in
theorem sc_J9_max_f86c9 (l : Launch) (dC : Nat → ClassId) (dI : Nat → Nat → Nat) (cB cI cJ cZ cS cO : ClassId) (b : Nat) (K V : Nat → Nat) (fz : Value) (F : Nat) (cs : CS) (x0 : Int64) (x2 : Int64) (r9 : Int64) (hf : c_J9_max_f86c9 F cs x0 x2 = some r9) : ocL l dC dI cB cI cJ cZ cS cO b K V fz yJ9_max_f86c9 (wsOf yJ9_max_f86c9 cJ9_max_f86c9 4 (some .long)) (0) [.long x0, .long x2] cs cs r9 := by
  intro sz
  refine va_MetF (cc := cJ9_max_f86c9) (maxL := 4) (ret := (some .long)) (by decide +kernel) rfl ?_
  intro p e s m args below meth c s₁ B hml hv
  obtain ⟨rfl, hsz, hP, hK, hD0, hZ⟩ := hv
  have hx := B.exec
  have hb := B.bytes
  have hr := B.returns
  have hts := atoms_spec (ws := (wsOf yJ9_max_f86c9 cJ9_max_f86c9 4 (some .long))) B.pre
  have hown : s.vm.findClass RJ9 = some m.cls := findClass_of_methodNamed B.named
  have hlocks := B.notSynchronized
  subst hsz
  have hD := hD0.self (sz := s.heap.size)
  generalize hAe : va_A (cW cB cI cJ cZ cS cO b cs) s.heap.size = A at hD hZ ⊢
  have hA : ∀ q : Nat, s.heap.size ≤ q → A q := fun q h => by rw [← hAe]; exact Or.inr h
  have hS : va_S A s.heap s.heap [] := va_S.rf
  have hl := lv_entry ([.long x0, .long x2]) (n := 4) (Nat.le_of_ble_eq_true rfl)
  rw [lg_entry_eq]
  generalize (lg_sl ([.long x0, .long x2]) ++ List.replicate (4 - (lg_sl ([.long x0, .long x2])).length) Slot.unset).toArray = ls at hl ⊢
  have hl : lv_has ls 4 [(0, .long x0), (2, .long x2)] := hl
  have B_11 : ∀ (y0 : Int64), c_J9_max_f86c9_b11 F cs y0 = some r9 → ∀ (H : Heap) (locs : List Loc) (ls : Array Slot), va_P (dC, dI) vwCl (cW cB cI cJ cZ cS cO b cs) H → va_D A (cW cB cI cJ cZ cS cO b cs) → va_S A s.heap H locs → lv_has ls 4 [] → W p l e (headSpec (wsOf yJ9_max_f86c9 cJ9_max_f86c9 4 (some .long)) ({ frames := 0, cells := 0, slots := 0, locals := 60 * (0) } : Room)).room s m ([.long x0, .long x2] : List Value).toArray below meth c H locs 0 0 (MQ below (va_Ql (fun (x : Int64) (_ : Unit) => x = r9) (fun _ t_ => va_P (dC, dI) vwCl (cW cB cI cJ cZ cS cO b cs) t_.heap ∧ va_D A (cW cB cI cJ cZ cS cO b cs)) A) ([.long x0, .long x2] : List Value).toArray s 0 0 A) (F0 m 11 ls [.long y0]) := by
    intro y0 h H locs ls hP hD hS hl
    unfold c_J9_max_f86c9_b11 at h
    have e2 := Option.some.inj h
    exact W.lret (v := y0) hx hb hr (fun t_ ht hW => ⟨⟨y0, (), rfl, e2, by rw [ht]; exact hP, hD⟩, hS.F ht⟩) hS.2.2 dJ9_max_f86c9_11
  have h := hf
  unfold c_J9_max_f86c9 at h
  refine lv_lload_n hx hb dJ9_max_f86c9_0 rfl (lv_at hl 0 rfl) ?_
  refine lv_lload_n hx hb dJ9_max_f86c9_1 rfl (lv_at hl 1 rfl) ?_
  refine W.lcmp hx hb dJ9_max_f86c9_2 ?_
  refine lv_if_lt (tgt := 10) hx hb dJ9_max_f86c9_3 (by decide) (fun c_1 => ?_) (fun c_1 => ?_)
  · skip
    have c_1 : x0 < x2 := (lg_cmp_lt _ _).mp c_1
    replace h := (if_pos c_1).symm.trans h
    refine lv_lload_n hx hb dJ9_max_f86c9_10 rfl (lv_at hl 1 rfl) ?_
    exact B_11 x2 h _ _ _ hP hD hS (lv_sub hl [] rfl)
  · skip
    have c_1 : ¬ (x0 < x2) := fun h9 => c_1 ((lg_cmp_lt _ _).mpr h9)
    replace h := (if_neg c_1).symm.trans h
    refine lv_lload_n hx hb dJ9_max_f86c9_6 rfl (lv_at hl 0 rfl) ?_
    refine lv_goto (tgt := 11) hx hb dJ9_max_f86c9_7 (by decide) ?_
    exact B_11 x0 h _ _ _ hP hD hS (lv_sub hl [] rfl)
theorem dX8_set_0 : decode cX8_set 0 = .ok (.aload_n 0, 1) := by decide +kernel
theorem dX8_set_1 : decode cX8_set 1 = .ok (.iload_n 1, 1) := by decide +kernel
theorem dX8_set_2 : decode cX8_set 2 = .ok (.invokevirtual 35, 3) := by decide +kernel
theorem dX8_set_5 : decode cX8_set 5 = .ok (.ifCond .eq 28, 3) := by decide +kernel
theorem dX8_set_8 : decode cX8_set 8 = .ok (.aload_n 0, 1) := by decide +kernel
theorem dX8_set_9 : decode cX8_set 9 = .ok (.getfield 11, 3) := by decide +kernel
theorem dX8_set_12 : decode cX8_set 12 = .ok (.iload_n 1, 1) := by decide +kernel
theorem dX8_set_13 : decode cX8_set 13 = .ok (.iload 4, 2) := by decide +kernel
theorem dX8_set_15 : decode cX8_set 15 = .ok (.ifCond .eq 7, 3) := by decide +kernel
theorem dX8_set_18 : decode cX8_set 18 = .ok (.lconst 0, 1) := by decide +kernel
theorem dX8_set_19 : decode cX8_set 19 = .ok (.goto 4, 3) := by decide +kernel
theorem dX8_set_22 : decode cX8_set 22 = .ok (.lload_n 2, 1) := by decide +kernel
theorem dX8_set_23 : decode cX8_set 23 = .ok (.lastore, 1) := by decide +kernel
theorem dX8_set_24 : decode cX8_set 24 = .ok (.aload_n 0, 1) := by decide +kernel
theorem dX8_set_25 : decode cX8_set 25 = .ok (.getfield 15, 3) := by decide +kernel
theorem dX8_set_28 : decode cX8_set 28 = .ok (.iload_n 1, 1) := by decide +kernel
theorem dX8_set_29 : decode cX8_set 29 = .ok (.iload 4, 2) := by decide +kernel
theorem dX8_set_31 : decode cX8_set 31 = .ok (.i2b, 1) := by decide +kernel
theorem dX8_set_32 : decode cX8_set 32 = .ok (.bastore, 1) := by decide +kernel
theorem dX8_set_33 : decode cX8_set 33 = .ok (.return_, 1) := by decide +kernel
def c_X8_set_b33 (F : Nat) (cs1 : CS) : Option CS := some cs1
def c_X8_set_b23 (F : Nat) (cs1 : CS) (u0 : Nat) (u1 : Int32) (u4 : Int32) (y0 : Int64) (y1 : Int32) (y2 : Nat) (wy2 : Nat) : Option CS := Option.bind (wB cs1 288 y2 wy2 y1 y0) fun cs_1 => Option.bind (gA cs_1 9 289 u0) fun v_2 => Option.bind (wA cs_1 289 u0 v_2 u1 (vp_nar .byte u4.toInt8.toInt32)) fun cs_3 => c_X8_set_b33 F cs_3
def c_X8_set (F : Nat) (cs : CS) (x0 : Nat) (x1 : Int32) (x2 : Int64) (x4 : Int32) : Option CS := Option.bind (ckE cs 9 x0) fun _ => Option.bind (c_X8_holds F cs x0 x1) fun v_4 => if v_4 = 0 then (c_X8_set_b33 F cs) else (Option.bind (gA cs 9 288 x0) fun v_7 => if x4 = 0 then (c_X8_set_b23 F cs x0 x1 x4 x2 x1 x0 v_7) else (c_X8_set_b23 F cs x0 x1 x4 0 x1 x0 v_7))
theorem cw_X4_X8_set {R : Room} {s : State} {args : Array Value} {y0 : MethodName} {c0 : ByteArray} {n0 : Nat} {r0 : Option FieldType} (hts : ∀ w ∈ wsOf y0 c0 n0 r0, w.before args s = true) {fr : Nat} (h1 : fr + 1 ≤ R.frames) (h2 : 8 + (5 + 11) + 60 * fr ≤ R.locals) : CallW R s args RX4 RX8 273 yX8_set cX8_set 5 none (wsOf yX8_set cX8_set 5 none) ({ frames := fr, cells := 0, slots := 0, locals := 60 * fr } : Room) 0 0 3 := cwV 3 hts (gd_all (in_V kw_1524 kw_1401 kw_1402 kw_188 kc_X8_set)) rfl rfl rfl (by decide +kernel) ⟨h1, h2⟩
theorem cw_X8_X8_set {R : Room} {s : State} {args : Array Value} {y0 : MethodName} {c0 : ByteArray} {n0 : Nat} {r0 : Option FieldType} (hts : ∀ w ∈ wsOf y0 c0 n0 r0, w.before args s = true) {fr : Nat} (h1 : fr + 1 ≤ R.frames) (h2 : 8 + (5 + 11) + 60 * fr ≤ R.locals) : CallW R s args RX8 RX8 43 yX8_set cX8_set 5 none (wsOf yX8_set cX8_set 5 none) ({ frames := fr, cells := 0, slots := 0, locals := 60 * fr } : Room) 0 0 3 := cwV 3 hts (gd_all (in_V kw_1400 kw_1401 kw_1402 kw_188 kc_X8_set)) rfl rfl rfl (by decide +kernel) ⟨h1, h2⟩
set_option maxHeartbeats 4000000 in
set_option maxRecDepth 100000 in
theorem sc_X8_set (l : Launch) (dC : Nat → ClassId) (dI : Nat → Nat → Nat) (cB cI cJ cZ cS cO : ClassId) (b : Nat) (K V : Nat → Nat) (fz : Value) (F : Nat) (cs : CS) (x0 : Nat) (x1 : Int32) (x2 : Int64) (x4 : Int32) (cs9 : CS) (hf : c_X8_set F cs x0 x1 x2 x4 = some cs9) : ocV l dC dI cB cI cJ cZ cS cO b K V fz yX8_set (wsOf yX8_set cX8_set 5 none) (1) [.ref (b + x0), .int x1, .long x2, .int x4] cs cs9 := by
  intro sz
  refine Met.ofW (cc := cX8_set) (maxL := 5) (ret := none) (by decide) rfl ?_
  intro p e s m args below meth c s₁ B hml hv
  obtain ⟨rfl, hsz, hP, hK, hD0, hZ⟩ := hv
  have hx := B.exec
  have hb := B.bytes
  have hr := B.returns
  have hts := atoms_spec (ws := (wsOf yX8_set cX8_set 5 none)) B.pre
  have hown : s.vm.findClass RX8 = some m.cls := findClass_of_methodNamed B.named
  have hlocks := B.notSynchronized
  subst hsz
  have hD := hD0.self (sz := s.heap.size)
  generalize hAe : va_A (cW cB cI cJ cZ cS cO b cs) s.heap.size = A at hD hZ ⊢
  have hA : ∀ q : Nat, s.heap.size ≤ q → A q := fun q h => by rw [← hAe]; exact Or.inr h
  have hS : va_S A s.heap s.heap [] := va_S.rf
  have hl := lv_entry ([.ref (b + x0), .int x1, .long x2, .int x4]) (n := 5) (Nat.le_of_ble_eq_true rfl)
  rw [lg_entry_eq]
  generalize (lg_sl ([.ref (b + x0), .int x1, .long x2, .int x4]) ++ List.replicate (5 - (lg_sl ([.ref (b + x0), .int x1, .long x2, .int x4])).length) Slot.unset).toArray = ls at hl ⊢
  have hl : lv_has ls 5 [(0, .ref (b + x0)), (1, .int x1), (2, .long x2), (4, .int x4)] := hl
  have B_33 : ∀ (cs1 : CS) , c_X8_set_b33 F cs1 = some cs9 → ∀ (H : Heap) (locs : List Loc) (ls : Array Slot), va_P (dC, dI) vwCl (cW cB cI cJ cZ cS cO b cs1) H → va_D A (cW cB cI cJ cZ cS cO b cs1) → va_S A s.heap H locs → lv_has ls 5 [] → W p l e (headSpec (wsOf yX8_set cX8_set 5 none) ({ frames := 1, cells := 0, slots := 0, locals := 60 * (1) } : Room)).room s m ([.ref (b + x0), .int x1, .long x2, .int x4] : List Value).toArray below meth c H locs 0 0 (MQ below (va_Qv (fun (_ : Unit) => True) (fun _ t_ => va_P (dC, dI) vwCl (cW cB cI cJ cZ cS cO b cs9) t_.heap ∧ va_D A (cW cB cI cJ cZ cS cO b cs9)) A) ([.ref (b + x0), .int x1, .long x2, .int x4] : List Value).toArray s 0 0 A) (F0 m 33 ls []) := by
    intro cs1  h H locs ls hP hD hS hl
    unfold c_X8_set_b33 at h
    have e1 := Option.some.inj h
    rw [e1] at hP hD
    exact W.vret hx hb hr (fun t_ ht hW => ⟨⟨(), rfl, trivial, by rw [ht]; exact hP, hD⟩, hS.F ht⟩) hS.2.2 dX8_set_33
  have B_23 : ∀ (cs1 : CS) (u0 : Nat) (u1 : Int32) (u4 : Int32) (y0 : Int64) (y1 : Int32) (y2 : Nat) (wy2 : Nat), c_X8_set_b23 F cs1 u0 u1 u4 y0 y1 y2 wy2 = some cs9 → ∀ (H : Heap) (locs : List Loc) (ls : Array Slot), va_P (dC, dI) vwCl (cW cB cI cJ cZ cS cO b cs1) H → va_D A (cW cB cI cJ cZ cS cO b cs1) → va_S A s.heap H locs → lv_has ls 5 [(0, .ref (b + u0)), (1, .int u1), (4, .int u4)] → W p l e (headSpec (wsOf yX8_set cX8_set 5 none) ({ frames := 1, cells := 0, slots := 0, locals := 60 * (1) } : Room)).room s m ([.ref (b + x0), .int x1, .long x2, .int x4] : List Value).toArray below meth c H locs 0 0 (MQ below (va_Qv (fun (_ : Unit) => True) (fun _ t_ => va_P (dC, dI) vwCl (cW cB cI cJ cZ cS cO b cs9) t_.heap ∧ va_D A (cW cB cI cJ cZ cS cO b cs9)) A) ([.ref (b + x0), .int x1, .long x2, .int x4] : List Value).toArray s 0 0 A) (F0 m 23 ls [.long y0, .int y1, .ref (b + wy2)]) := by
    intro cs1 u0 u1 u4 y0 y1 y2 wy2 h H locs ls hP hD hS hl
    unfold c_X8_set_b23 at h
    replace h := ob h; obtain ⟨cs_1, hv_1, h⟩ := h
    refine ast2 hx hb hK hP hD hS rfl hv_1 dX8_set_23 (fun H locs hP hD hS => ?_)
    refine lv_aload_n hx hb dX8_set_24 rfl (lv_at hl 0 rfl) ?_
    replace h := ob h; obtain ⟨v_2, hv_2, h⟩ := h
    refine fg_X8_15 hx hb hts hown hK hP hv_2 dX8_set_25 ?_
    refine lv_iload_n hx hb dX8_set_28 rfl (lv_at hl 1 rfl) ?_
    refine lv_iload hx hb dX8_set_29 (lv_at hl 2 rfl) ?_
    refine lv_i2b hx hb dX8_set_31 rfl ?_
    replace h := ob h; obtain ⟨cs_3, hv_3, h⟩ := h
    refine ast1 hx hb hK hP hD hS rfl hv_3 dX8_set_32 (fun H locs hP hD hS => ?_)
    exact B_33 cs_3 h _ _ _ hP hD hS (lv_sub hl [] rfl)
  have h := hf
  unfold c_X8_set at h
  refine lv_aload_n hx hb dX8_set_0 rfl (lv_at hl 0 rfl) ?_
  refine lv_iload_n hx hb dX8_set_1 rfl (lv_at hl 1 rfl) ?_
  replace h := ob h; obtain ⟨w_5, hw_5, h⟩ := h
  replace h := ob h; obtain ⟨v_4, hv_4, h⟩ := h
  refine ccI (As := [.int x1]) hx hb hml hts hown hK hP hD hS hA hZ (X := 9) (by decide) rfl (ckE_some hw_5) (sc_X8_holds l dC dI cB cI cJ cZ cS cO b K V fz F cs x0 x1 v_4 hv_4) (cw_X8_X8_holds hts (fr := 0) (Nat.le_of_ble_eq_true rfl) (Nat.le_of_ble_eq_true rfl)) rfl hl.1 (Nat.le_of_ble_eq_true rfl) ⟨Nat.zero_le _, Nat.zero_le _⟩ dX8_set_2 (fun H locs hP hD hS => ?_)
  refine lv_if_eq (tgt := 33) hx hb dX8_set_5 (by decide) (fun c_6 => ?_) (fun c_6 => ?_)
  · skip
    replace h := (if_pos c_6).symm.trans h
    exact B_33 cs h _ _ _ hP hD hS (lv_sub hl [] rfl)
  · skip
    replace h := (if_neg c_6).symm.trans h
    refine lv_aload_n hx hb dX8_set_8 rfl (lv_at hl 0 rfl) ?_
    replace h := ob h; obtain ⟨v_7, hv_7, h⟩ := h
    refine fg_X8_11 hx hb hts hown hK hP hv_7 dX8_set_9 ?_
    refine lv_iload_n hx hb dX8_set_12 rfl (lv_at hl 1 rfl) ?_
    refine lv_iload hx hb dX8_set_13 (lv_at hl 3 rfl) ?_
    refine lv_if_eq (tgt := 22) hx hb dX8_set_15 (by decide) (fun c_8 => ?_) (fun c_8 => ?_)
    · skip
      replace h := (if_pos c_8).symm.trans h
      refine lv_lload_n hx hb dX8_set_22 rfl (lv_at hl 2 rfl) ?_
      exact B_23 cs x0 x1 x4 x2 x1 x0 v_7 h _ _ _ hP hD hS (lv_sub hl [0, 1, 3] rfl)
    · skip
      replace h := (if_neg c_8).symm.trans h
      refine lv_lconst (v := 0) hx hb dX8_set_18 (by decide) ?_
      refine lv_goto (tgt := 23) hx hb dX8_set_19 (by decide) ?_
      exact B_23 cs x0 x1 x4 0 x1 x0 v_7 h _ _ _ hP hD hS (lv_sub hl [0, 1, 3] rfl)
theorem dX5_joinedWidth_0 : decode cX5_joinedWidth 0 = .ok (.iconst 0, 1) := by decide +kernel
theorem dX5_joinedWidth_1 : decode cX5_joinedWidth 1 = .ok (.istore_n 1, 1) := by decide +kernel
theorem dX5_joinedWidth_2 : decode cX5_joinedWidth 2 = .ok (.iconst 0, 1) := by decide +kernel
theorem dX5_joinedWidth_3 : decode cX5_joinedWidth 3 = .ok (.istore_n 2, 1) := by decide +kernel
theorem dX5_joinedWidth_4 : decode cX5_joinedWidth 4 = .ok (.iload_n 2, 1) := by decide +kernel
theorem dX5_joinedWidth_5 : decode cX5_joinedWidth 5 = .ok (.aload_n 0, 1) := by decide +kernel
theorem dX5_joinedWidth_6 : decode cX5_joinedWidth 6 = .ok (.getfield 48, 3) := by decide +kernel
theorem dX5_joinedWidth_9 : decode cX5_joinedWidth 9 = .ok (.if_icmp .ge 46, 3) := by decide +kernel
theorem dX5_joinedWidth_12 : decode cX5_joinedWidth 12 = .ok (.iload_n 2, 1) := by decide +kernel
theorem dX5_joinedWidth_13 : decode cX5_joinedWidth 13 = .ok (.aload_n 0, 1) := by decide +kernel
theorem dX5_joinedWidth_14 : decode cX5_joinedWidth 14 = .ok (.getfield 20, 3) := by decide +kernel
theorem dX5_joinedWidth_17 : decode cX5_joinedWidth 17 = .ok (.arraylength, 1) := by decide +kernel
theorem dX5_joinedWidth_18 : decode cX5_joinedWidth 18 = .ok (.if_icmp .ge 37, 3) := by decide +kernel
theorem dX5_joinedWidth_21 : decode cX5_joinedWidth 21 = .ok (.iload_n 1, 1) := by decide +kernel
theorem dX5_joinedWidth_22 : decode cX5_joinedWidth 22 = .ok (.aload_n 0, 1) := by decide +kernel
theorem dX5_joinedWidth_23 : decode cX5_joinedWidth 23 = .ok (.getfield 20, 3) := by decide +kernel
theorem dX5_joinedWidth_26 : decode cX5_joinedWidth 26 = .ok (.iload_n 2, 1) := by decide +kernel
theorem dX5_joinedWidth_27 : decode cX5_joinedWidth 27 = .ok (.aaload, 1) := by decide +kernel
theorem dX5_joinedWidth_28 : decode cX5_joinedWidth 28 = .ok (.ifnonnull 7, 3) := by decide +kernel
theorem dX5_joinedWidth_31 : decode cX5_joinedWidth 31 = .ok (.iconst 0, 1) := by decide +kernel
theorem dX5_joinedWidth_32 : decode cX5_joinedWidth 32 = .ok (.goto 15, 3) := by decide +kernel
theorem dX5_joinedWidth_35 : decode cX5_joinedWidth 35 = .ok (.aload_n 0, 1) := by decide +kernel
theorem dX5_joinedWidth_36 : decode cX5_joinedWidth 36 = .ok (.getfield 20, 3) := by decide +kernel
theorem dX5_joinedWidth_39 : decode cX5_joinedWidth 39 = .ok (.iload_n 2, 1) := by decide +kernel
theorem dX5_joinedWidth_40 : decode cX5_joinedWidth 40 = .ok (.aaload, 1) := by decide +kernel
theorem dX5_joinedWidth_41 : decode cX5_joinedWidth 41 = .ok (.getfield 51, 3) := by decide +kernel
theorem dX5_joinedWidth_44 : decode cX5_joinedWidth 44 = .ok (.getfield 54, 3) := by decide +kernel
theorem dX5_joinedWidth_47 : decode cX5_joinedWidth 47 = .ok (.iadd, 1) := by decide +kernel
theorem dX5_joinedWidth_48 : decode cX5_joinedWidth 48 = .ok (.istore_n 1, 1) := by decide +kernel
theorem dX5_joinedWidth_49 : decode cX5_joinedWidth 49 = .ok (.iinc 2 1, 3) := by decide +kernel
theorem dX5_joinedWidth_52 : decode cX5_joinedWidth 52 = .ok (.goto (-48), 3) := by decide +kernel
theorem dX5_joinedWidth_55 : decode cX5_joinedWidth 55 = .ok (.iload_n 1, 1) := by decide +kernel
theorem dX5_joinedWidth_56 : decode cX5_joinedWidth 56 = .ok (.ireturn, 1) := by decide +kernel
def c_X5_joinedWidth_b55 (F : Nat) (cs : CS) (u1 : Int32) : Option Int32 := some u1
def c_X5_joinedWidth_b47 (F : Nat) (cs : CS) (rc4 : Nat → Int32 → Int32 → Option Int32) (u0 : Nat) (u2 : Int32) (y0 : Int32) (y1 : Int32) : Option Int32 := rc4 u0 (y1 + y0) (u2 + 1)
def c_X5_joinedWidth_L4 (F : Nat) (cs : CS) : Nat → Nat → Int32 → Int32 → Option Int32
  | 0, _, _, _ => none
  | lf_4 + 1, u0, u1, u2 => Option.bind (gI cs 6 196 u0) fun v_1 => if v_1 ≤ u2 then (c_X5_joinedWidth_b55 F cs u1) else (Option.bind (gA cs 6 195 u0) fun v_3 => Option.bind (lnA cs 195 u0 v_3) fun v_4 => if v_4 ≤ u2 then (c_X5_joinedWidth_b55 F cs u1) else (Option.bind (gA cs 6 195 u0) fun v_6 => Option.bind (rQ cs 195 u0 v_6 u2) fun v_7 => oc v_7 (c_X5_joinedWidth_b47 F cs (c_X5_joinedWidth_L4 F cs lf_4) u0 u2 0 u1) (fun i_8 => Option.bind (gA cs 6 195 u0) fun v_9 => Option.bind (rQ cs 195 u0 v_9 u2) fun v_10 => Option.bind (v_10) fun i_11 => Option.bind (gR cs 7 235 i_11) fun v_12 => Option.bind (v_12) fun i_13 => Option.bind (gI cs 3 96 i_13) fun v_14 => c_X5_joinedWidth_b47 F cs (c_X5_joinedWidth_L4 F cs lf_4) u0 u2 v_14 u1)))
def c_X5_joinedWidth (F : Nat) (cs : CS) (x0 : Nat) : Option Int32 := c_X5_joinedWidth_L4 F cs F x0 0 0
theorem cw_X4_X5_joinedWidth {R : Room} {s : State} {args : Array Value} {y0 : MethodName} {c0 : ByteArray} {n0 : Nat} {r0 : Option FieldType} (hts : ∀ w ∈ wsOf y0 c0 n0 r0, w.before args s = true) {fr : Nat} (h1 : fr + 1 ≤ R.frames) (h2 : 8 + (3 + 11) + 60 * fr ≤ R.locals) : CallW R s args RX4 RX5 135 yX5_joinedWidth cX5_joinedWidth 3 (some .int) (wsOf yX5_joinedWidth cX5_joinedWidth 3 (some .int)) ({ frames := fr, cells := 0, slots := 0, locals := 60 * fr } : Room) 0 0 0 := cwV 0 hts (gd_all (in_V kw_1457 kw_1458 kw_1459 kw_195 kc_X5_joinedWidth)) rfl rfl rfl (by decide +kernel) ⟨h1, h2⟩
set_option maxHeartbeats 4000000 in
set_option maxRecDepth 100000 in
theorem sc_X5_joinedWidth (l : Launch) (dC : Nat → ClassId) (dI : Nat → Nat → Nat) (cB cI cJ cZ cS cO : ClassId) (b : Nat) (K V : Nat → Nat) (fz : Value) (F : Nat) (cs : CS) (x0 : Nat) (r9 : Int32) (hf : c_X5_joinedWidth F cs x0 = some r9) : ocI l dC dI cB cI cJ cZ cS cO b K V fz yX5_joinedWidth (wsOf yX5_joinedWidth cX5_joinedWidth 3 (some .int)) (0) [.ref (b + x0)] cs cs r9 := by
  intro sz
  refine Met.ofW (cc := cX5_joinedWidth) (maxL := 3) (ret := (some .int)) (by decide) rfl ?_
  intro p e s m args below meth c s₁ B hml hv
  obtain ⟨rfl, hsz, hP, hK, hD0, hZ⟩ := hv
  have hx := B.exec
  have hb := B.bytes
  have hr := B.returns
  have hts := atoms_spec (ws := (wsOf yX5_joinedWidth cX5_joinedWidth 3 (some .int))) B.pre
  have hown : s.vm.findClass RX5 = some m.cls := findClass_of_methodNamed B.named
  have hlocks := B.notSynchronized
  subst hsz
  have hD := hD0.self (sz := s.heap.size)
  generalize hAe : va_A (cW cB cI cJ cZ cS cO b cs) s.heap.size = A at hD hZ ⊢
  have hA : ∀ q : Nat, s.heap.size ≤ q → A q := fun q h => by rw [← hAe]; exact Or.inr h
  have hS : va_S A s.heap s.heap [] := va_S.rf
  have hl := lv_entry ([.ref (b + x0)]) (n := 3) (Nat.le_of_ble_eq_true rfl)
  rw [lg_entry_eq]
  generalize (lg_sl ([.ref (b + x0)]) ++ List.replicate (3 - (lg_sl ([.ref (b + x0)])).length) Slot.unset).toArray = ls at hl ⊢
  have hl : lv_has ls 3 [(0, .ref (b + x0))] := hl
  have B_55 : ∀ (u1 : Int32), c_X5_joinedWidth_b55 F cs u1 = some r9 → ∀ (H : Heap) (locs : List Loc) (ls : Array Slot), va_P (dC, dI) vwCl (cW cB cI cJ cZ cS cO b cs) H → va_D A (cW cB cI cJ cZ cS cO b cs) → va_S A s.heap H locs → lv_has ls 3 [(1, .int u1)] → W p l e (headSpec (wsOf yX5_joinedWidth cX5_joinedWidth 3 (some .int)) ({ frames := 0, cells := 0, slots := 0, locals := 60 * (0) } : Room)).room s m ([.ref (b + x0)] : List Value).toArray below meth c H locs 0 0 (MQ below (va_Qi (fun (x : Int32) (_ : Unit) => x = r9) (fun _ t_ => va_P (dC, dI) vwCl (cW cB cI cJ cZ cS cO b cs) t_.heap ∧ va_D A (cW cB cI cJ cZ cS cO b cs)) A) ([.ref (b + x0)] : List Value).toArray s 0 0 A) (F0 m 55 ls []) := by
    intro u1 h H locs ls hP hD hS hl
    unfold c_X5_joinedWidth_b55 at h
    refine lv_iload_n hx hb dX5_joinedWidth_55 rfl (lv_at hl 0 rfl) ?_
    have e2 := Option.some.inj h
    exact W.iret (v := u1) hx hb hr (fun t_ ht hW => ⟨⟨u1, (), rfl, e2, by rw [ht]; exact hP, hD⟩, hS.F ht⟩) hS.2.2 dX5_joinedWidth_56
  have L_4 : ∀ (lf_4 : Nat), ∀ (u0 : Nat) (u1 : Int32) (u2 : Int32), c_X5_joinedWidth_L4 F cs lf_4 u0 u1 u2 = some r9 → ∀ (H : Heap) (locs : List Loc) (ls : Array Slot), va_P (dC, dI) vwCl (cW cB cI cJ cZ cS cO b cs) H → va_D A (cW cB cI cJ cZ cS cO b cs) → va_S A s.heap H locs → lv_has ls 3 [(0, .ref (b + u0)), (1, .int u1), (2, .int u2)] → W p l e (headSpec (wsOf yX5_joinedWidth cX5_joinedWidth 3 (some .int)) ({ frames := 0, cells := 0, slots := 0, locals := 60 * (0) } : Room)).room s m ([.ref (b + x0)] : List Value).toArray below meth c H locs 0 0 (MQ below (va_Qi (fun (x : Int32) (_ : Unit) => x = r9) (fun _ t_ => va_P (dC, dI) vwCl (cW cB cI cJ cZ cS cO b cs) t_.heap ∧ va_D A (cW cB cI cJ cZ cS cO b cs)) A) ([.ref (b + x0)] : List Value).toArray s 0 0 A) (F0 m 4 ls []) := by
    intro lf_4
    induction lf_4 with
    | zero => intro u0 u1 u2 h; cases (show (none : Option Int32) = _ from h)
    | succ lf_4 ih_4 =>
      have B_47 : ∀ (u0 : Nat) (u2 : Int32) (y0 : Int32) (y1 : Int32), c_X5_joinedWidth_b47 F cs (c_X5_joinedWidth_L4 F cs lf_4) u0 u2 y0 y1 = some r9 → ∀ (H : Heap) (locs : List Loc) (ls : Array Slot), va_P (dC, dI) vwCl (cW cB cI cJ cZ cS cO b cs) H → va_D A (cW cB cI cJ cZ cS cO b cs) → va_S A s.heap H locs → lv_has ls 3 [(0, .ref (b + u0)), (2, .int u2)] → W p l e (headSpec (wsOf yX5_joinedWidth cX5_joinedWidth 3 (some .int)) ({ frames := 0, cells := 0, slots := 0, locals := 60 * (0) } : Room)).room s m ([.ref (b + x0)] : List Value).toArray below meth c H locs 0 0 (MQ below (va_Qi (fun (x : Int32) (_ : Unit) => x = r9) (fun _ t_ => va_P (dC, dI) vwCl (cW cB cI cJ cZ cS cO b cs) t_.heap ∧ va_D A (cW cB cI cJ cZ cS cO b cs)) A) ([.ref (b + x0)] : List Value).toArray s 0 0 A) (F0 m 47 ls [.int y0, .int y1]) := by
        intro u0 u2 y0 y1 h H locs ls hP hD hS hl
        unfold c_X5_joinedWidth_b47 at h
        refine lv_iadd hx hb dX5_joinedWidth_47 ?_
        refine lv_istore_n (lv' := [(1, .int (y1 + y0)), (0, .ref (b + u0)), (2, .int u2)]) hx hb dX5_joinedWidth_48 rfl hl (by decide) rfl (fun ls hl => ?_)
        refine lv_iinc (v := u2 + 1) (lv' := [(2, .int (u2 + 1)), (1, .int (y1 + y0)), (0, .ref (b + u0))]) hx hb dX5_joinedWidth_49 hl (k := 2) rfl rfl (by decide) rfl (fun ls hl => ?_)
        refine lv_goto (tgt := 4) hx hb dX5_joinedWidth_52 (by decide) ?_
        exact ih_4 u0 (y1 + y0) (u2 + 1) h _ _ _ hP hD hS (lv_sub hl [2, 1, 0] rfl)
      intro u0 u1 u2 h H locs ls hP hD hS hl
      rw [c_X5_joinedWidth_L4] at h
      refine lv_iload_n hx hb dX5_joinedWidth_4 rfl (lv_at hl 2 rfl) ?_
      refine lv_aload_n hx hb dX5_joinedWidth_5 rfl (lv_at hl 0 rfl) ?_
      replace h := ob h; obtain ⟨v_1, hv_1, h⟩ := h
      refine fg_X5_48 hx hb hts hown hK hP hv_1 dX5_joinedWidth_6 ?_
      refine lv_icmp_ge (tgt := 55) hx hb dX5_joinedWidth_9 (by decide) (fun c_2 => ?_) (fun c_2 => ?_)
      · skip
        replace h := (if_pos c_2).symm.trans h
        exact B_55 u1 h _ _ _ hP hD hS (lv_sub hl [1] rfl)
      · skip
        replace h := (if_neg c_2).symm.trans h
        refine lv_iload_n hx hb dX5_joinedWidth_12 rfl (lv_at hl 2 rfl) ?_
        refine lv_aload_n hx hb dX5_joinedWidth_13 rfl (lv_at hl 0 rfl) ?_
        replace h := ob h; obtain ⟨v_3, hv_3, h⟩ := h
        refine fg_X5_20 hx hb hts hown hK hP hv_3 dX5_joinedWidth_14 ?_
        replace h := ob h; obtain ⟨v_4, hv_4, h⟩ := h
        refine alen3 hx hb hK hP rfl hv_4 dX5_joinedWidth_17 ?_
        refine lv_icmp_ge (tgt := 55) hx hb dX5_joinedWidth_18 (by decide) (fun c_5 => ?_) (fun c_5 => ?_)
        · skip
          replace h := (if_pos c_5).symm.trans h
          exact B_55 u1 h _ _ _ hP hD hS (lv_sub hl [1] rfl)
        · skip
          replace h := (if_neg c_5).symm.trans h
          refine lv_iload_n hx hb dX5_joinedWidth_21 rfl (lv_at hl 1 rfl) ?_
          refine lv_aload_n hx hb dX5_joinedWidth_22 rfl (lv_at hl 0 rfl) ?_
          replace h := ob h; obtain ⟨v_6, hv_6, h⟩ := h
          refine fg_X5_20 hx hb hts hown hK hP hv_6 dX5_joinedWidth_23 ?_
          refine lv_iload_n hx hb dX5_joinedWidth_26 rfl (lv_at hl 2 rfl) ?_
          replace h := ob h; obtain ⟨v_7, hv_7, h⟩ := h
          refine aldQ hx hb hK hP rfl hv_7 dX5_joinedWidth_27 ?_
          cases v_7 with
          | none =>
            replace h := oc_n.symm.trans h
            refine lv_ifnonnullN hx hb dX5_joinedWidth_28 ?_
            refine lv_iconst (v := 0) hx hb dX5_joinedWidth_31 (by decide) ?_
            refine lv_goto (tgt := 47) hx hb dX5_joinedWidth_32 (by decide) ?_
            exact B_47 u0 u2 0 u1 h _ _ _ hP hD hS (lv_sub hl [0, 2] rfl)
          | some i_8 =>
            replace h := oc_s.symm.trans h
            refine lv_ifnonnull (tgt := 35) hx hb dX5_joinedWidth_28 (by decide) ?_
            refine lv_aload_n hx hb dX5_joinedWidth_35 rfl (lv_at hl 0 rfl) ?_
            replace h := ob h; obtain ⟨v_9, hv_9, h⟩ := h
            refine fg_X5_20 hx hb hts hown hK hP hv_9 dX5_joinedWidth_36 ?_
            refine lv_iload_n hx hb dX5_joinedWidth_39 rfl (lv_at hl 2 rfl) ?_
            replace h := ob h; obtain ⟨v_10, hv_10, h⟩ := h
            refine aldQ hx hb hK hP rfl hv_10 dX5_joinedWidth_40 ?_
            replace h := ob h; obtain ⟨i_11, hi_11, h⟩ := h
            subst hi_11
            replace h := ob h; obtain ⟨v_12, hv_12, h⟩ := h
            refine fg_X5_51 hx hb hts hown hK hP hv_12 dX5_joinedWidth_41 ?_
            replace h := ob h; obtain ⟨i_13, hi_13, h⟩ := h
            subst hi_13
            replace h := ob h; obtain ⟨v_14, hv_14, h⟩ := h
            refine fg_X5_54 hx hb hts hown hK hP hv_14 dX5_joinedWidth_44 ?_
            exact B_47 u0 u2 v_14 u1 h _ _ _ hP hD hS (lv_sub hl [0, 2] rfl)
  have h := hf
  unfold c_X5_joinedWidth at h
  refine lv_iconst (v := 0) hx hb dX5_joinedWidth_0 (by decide) ?_
  refine lv_istore_n (lv' := [(1, .int 0), (0, .ref (b + x0))]) hx hb dX5_joinedWidth_1 rfl hl (by decide) rfl (fun ls hl => ?_)
  refine lv_iconst (v := 0) hx hb dX5_joinedWidth_2 (by decide) ?_
  refine lv_istore_n (lv' := [(2, .int 0), (1, .int 0), (0, .ref (b + x0))]) hx hb dX5_joinedWidth_3 rfl hl (by decide) rfl (fun ls hl => ?_)
  exact L_4 F x0 0 0 h _ _ _ hP hD hS (lv_sub hl [2, 1, 0] rfl)
theorem dJ13_compare_74951_0 : decode cJ13_compare_74951 0 = .ok (.lload_n 0, 1) := by decide +kernel
theorem dJ13_compare_74951_1 : decode cJ13_compare_74951 1 = .ok (.lload_n 2, 1) := by decide +kernel
theorem dJ13_compare_74951_2 : decode cJ13_compare_74951 2 = .ok (.lcmp, 1) := by decide +kernel
theorem dJ13_compare_74951_3 : decode cJ13_compare_74951 3 = .ok (.ifCond .ge 7, 3) := by decide +kernel
theorem dJ13_compare_74951_6 : decode cJ13_compare_74951 6 = .ok (.iconst (-1), 1) := by decide +kernel
theorem dJ13_compare_74951_7 : decode cJ13_compare_74951 7 = .ok (.goto 14, 3) := by decide +kernel
theorem dJ13_compare_74951_10 : decode cJ13_compare_74951 10 = .ok (.lload_n 0, 1) := by decide +kernel
theorem dJ13_compare_74951_11 : decode cJ13_compare_74951 11 = .ok (.lload_n 2, 1) := by decide +kernel
theorem dJ13_compare_74951_12 : decode cJ13_compare_74951 12 = .ok (.lcmp, 1) := by decide +kernel
theorem dJ13_compare_74951_13 : decode cJ13_compare_74951 13 = .ok (.ifCond .ne 7, 3) := by decide +kernel
theorem dJ13_compare_74951_16 : decode cJ13_compare_74951 16 = .ok (.iconst 0, 1) := by decide +kernel
theorem dJ13_compare_74951_17 : decode cJ13_compare_74951 17 = .ok (.goto 4, 3) := by decide +kernel
theorem dJ13_compare_74951_20 : decode cJ13_compare_74951 20 = .ok (.iconst 1, 1) := by decide +kernel
theorem dJ13_compare_74951_21 : decode cJ13_compare_74951 21 = .ok (.ireturn, 1) := by decide +kernel
set_option maxRecDepth 20000 in
theorem kc_J13_compare_74951 : Cond.code yJ13_compare_74951 cJ13_compare_74951 4 (some .int) ∈ wsG := kGm (tab_6 (List.mem_of_getElem? (i := 123) rfl)) rfl
def c_J13_compare_74951_b21 (F : Nat) (cs : CS) (y0 : Int32) : Option Int32 := some y0
def c_J13_compare_74951 (F : Nat) (cs : CS) (x0 : Int64) (x2 : Int64) : Option Int32 := if x2 ≤ x0 then (if x0 = x2 then (c_J13_compare_74951_b21 F cs 0) else (c_J13_compare_74951_b21 F cs 1)) else (c_J13_compare_74951_b21 F cs (-1))
theorem cw_X8_J13_compare_74951 {R : Room} {s : State} {args : Array Value} {y0 : MethodName} {c0 : ByteArray} {n0 : Nat} {r0 : Option FieldType} (hts : ∀ w ∈ wsOf y0 c0 n0 r0, w.before args s = true) {fr : Nat} (h1 : fr + 1 ≤ R.frames) (h2 : 8 + (4 + 11) + 60 * fr ≤ R.locals) : CallB R s args RX8 59 yJ13_compare_74951 cJ13_compare_74951 4 (some .int) (wsOf yJ13_compare_74951 cJ13_compare_74951 4 (some .int)) ({ frames := fr, cells := 0, slots := 0, locals := 60 * fr } : Room) 0 0 2 ∧ (Cond.static yJ13_compare_74951).before args s = true := ⟨callB_of 2 hts (gd_all (in_I kc_J13_compare_74951)) rfl rfl rfl (hts _ (List.mem_cons_of_mem _ kw_207)) (hts _ (List.mem_cons_of_mem _ kw_1501)) (by decide +kernel) ⟨h1, h2⟩, hts _ (List.mem_cons_of_mem _ kw_1502)⟩
set_option maxHeartbeats 4000000 in
set_option maxRecDepth 100000 in
theorem sc_J13_compare_74951 (l : Launch) (dC : Nat → ClassId) (dI : Nat → Nat → Nat) (cB cI cJ cZ cS cO : ClassId) (b : Nat) (K V : Nat → Nat) (fz : Value) (F : Nat) (cs : CS) (x0 : Int64) (x2 : Int64) (r9 : Int32) (hf : c_J13_compare_74951 F cs x0 x2 = some r9) : ocI l dC dI cB cI cJ cZ cS cO b K V fz yJ13_compare_74951 (wsOf yJ13_compare_74951 cJ13_compare_74951 4 (some .int)) (0) [.long x0, .long x2] cs cs r9 := by
  intro sz
  refine va_MetF (cc := cJ13_compare_74951) (maxL := 4) (ret := (some .int)) (by decide +kernel) rfl ?_
  intro p e s m args below meth c s₁ B hml hv
  obtain ⟨rfl, hsz, hP, hK, hD0, hZ⟩ := hv
  have hx := B.exec
  have hb := B.bytes
  have hr := B.returns
  have hts := atoms_spec (ws := (wsOf yJ13_compare_74951 cJ13_compare_74951 4 (some .int))) B.pre
  have hown : s.vm.findClass RJ13 = some m.cls := findClass_of_methodNamed B.named
  have hlocks := B.notSynchronized
  subst hsz
  have hD := hD0.self (sz := s.heap.size)
  generalize hAe : va_A (cW cB cI cJ cZ cS cO b cs) s.heap.size = A at hD hZ ⊢
  have hA : ∀ q : Nat, s.heap.size ≤ q → A q := fun q h => by rw [← hAe]; exact Or.inr h
  have hS : va_S A s.heap s.heap [] := va_S.rf
  have hl := lv_entry ([.long x0, .long x2]) (n := 4) (Nat.le_of_ble_eq_true rfl)
  rw [lg_entry_eq]
  generalize (lg_sl ([.long x0, .long x2]) ++ List.replicate (4 - (lg_sl ([.long x0, .long x2])).length) Slot.unset).toArray = ls at hl ⊢
  have hl : lv_has ls 4 [(0, .long x0), (2, .long x2)] := hl
  have B_21 : ∀ (y0 : Int32), c_J13_compare_74951_b21 F cs y0 = some r9 → ∀ (H : Heap) (locs : List Loc) (ls : Array Slot), va_P (dC, dI) vwCl (cW cB cI cJ cZ cS cO b cs) H → va_D A (cW cB cI cJ cZ cS cO b cs) → va_S A s.heap H locs → lv_has ls 4 [] → W p l e (headSpec (wsOf yJ13_compare_74951 cJ13_compare_74951 4 (some .int)) ({ frames := 0, cells := 0, slots := 0, locals := 60 * (0) } : Room)).room s m ([.long x0, .long x2] : List Value).toArray below meth c H locs 0 0 (MQ below (va_Qi (fun (x : Int32) (_ : Unit) => x = r9) (fun _ t_ => va_P (dC, dI) vwCl (cW cB cI cJ cZ cS cO b cs) t_.heap ∧ va_D A (cW cB cI cJ cZ cS cO b cs)) A) ([.long x0, .long x2] : List Value).toArray s 0 0 A) (F0 m 21 ls [.int y0]) := by
    intro y0 h H locs ls hP hD hS hl
    unfold c_J13_compare_74951_b21 at h
    have e2 := Option.some.inj h
    exact W.iret (v := y0) hx hb hr (fun t_ ht hW => ⟨⟨y0, (), rfl, e2, by rw [ht]; exact hP, hD⟩, hS.F ht⟩) hS.2.2 dJ13_compare_74951_21
  have h := hf
  unfold c_J13_compare_74951 at h
  refine lv_lload_n hx hb dJ13_compare_74951_0 rfl (lv_at hl 0 rfl) ?_
  refine lv_lload_n hx hb dJ13_compare_74951_1 rfl (lv_at hl 1 rfl) ?_
  refine W.lcmp hx hb dJ13_compare_74951_2 ?_
  refine lv_if_ge (tgt := 10) hx hb dJ13_compare_74951_3 (by decide) (fun c_1 => ?_) (fun c_1 => ?_)
  · skip
    have c_1 : x2 ≤ x0 := (lg_cmp_ge _ _).mp c_1
    replace h := (if_pos c_1).symm.trans h
    refine lv_lload_n hx hb dJ13_compare_74951_10 rfl (lv_at hl 0 rfl) ?_
    refine lv_lload_n hx hb dJ13_compare_74951_11 rfl (lv_at hl 1 rfl) ?_
    refine W.lcmp hx hb dJ13_compare_74951_12 ?_
    refine lv_if_ne (tgt := 20) hx hb dJ13_compare_74951_13 (by decide) (fun c_2 => ?_) (fun c_2 => ?_)
    · skip
      have c_2 : ¬ (x0 = x2) := fun h9 => c_2 ((lg_cmp_eq _ _).mpr h9)
      replace h := (if_neg c_2).symm.trans h
      refine lv_iconst (v := 1) hx hb dJ13_compare_74951_20 (by decide) ?_
      exact B_21 1 h _ _ _ hP hD hS (lv_sub hl [] rfl)
    · skip
      have c_2 : x0 = x2 := (lg_cmp_eq _ _).mp c_2
      replace h := (if_pos c_2).symm.trans h
      refine lv_iconst (v := 0) hx hb dJ13_compare_74951_16 (by decide) ?_
      refine lv_goto (tgt := 21) hx hb dJ13_compare_74951_17 (by decide) ?_
      exact B_21 0 h _ _ _ hP hD hS (lv_sub hl [] rfl)
  · skip
    have c_1 : ¬ (x2 ≤ x0) := fun h9 => c_1 ((lg_cmp_ge _ _).mpr h9)
    replace h := (if_neg c_1).symm.trans h
    refine lv_iconst (v := (-1)) hx hb dJ13_compare_74951_6 (by decide) ?_
    refine lv_goto (tgt := 21) hx hb dJ13_compare_74951_7 (by decide) ?_
    exact B_21 (-1) h _ _ _ hP hD hS (lv_sub hl [] rfl)
theorem dX8_compareRows_0 : decode cX8_compareRows 0 = .ok (.iconst 0, 1) := by decide +kernel
theorem dX8_compareRows_1 : decode cX8_compareRows 1 = .ok (.istore 6, 2) := by decide +kernel
theorem dX8_compareRows_3 : decode cX8_compareRows 3 = .ok (.iload 6, 2) := by decide +kernel
theorem dX8_compareRows_5 : decode cX8_compareRows 5 = .ok (.iload 4, 2) := by decide +kernel
theorem dX8_compareRows_7 : decode cX8_compareRows 7 = .ok (.if_icmp .ge 113, 3) := by decide +kernel
theorem dX8_compareRows_10 : decode cX8_compareRows 10 = .ok (.aload_n 0, 1) := by decide +kernel
theorem dX8_compareRows_11 : decode cX8_compareRows 11 = .ok (.iload_n 1, 1) := by decide +kernel
theorem dX8_compareRows_12 : decode cX8_compareRows 12 = .ok (.iload 6, 2) := by decide +kernel
theorem dX8_compareRows_14 : decode cX8_compareRows 14 = .ok (.iadd, 1) := by decide +kernel
theorem dX8_compareRows_15 : decode cX8_compareRows 15 = .ok (.invokevirtual 35, 3) := by decide +kernel
theorem dX8_compareRows_18 : decode cX8_compareRows 18 = .ok (.ifCond .eq 14, 3) := by decide +kernel
theorem dX8_compareRows_21 : decode cX8_compareRows 21 = .ok (.aload_n 2, 1) := by decide +kernel
theorem dX8_compareRows_22 : decode cX8_compareRows 22 = .ok (.iload_n 3, 1) := by decide +kernel
theorem dX8_compareRows_23 : decode cX8_compareRows 23 = .ok (.iload 6, 2) := by decide +kernel
theorem dX8_compareRows_25 : decode cX8_compareRows 25 = .ok (.iadd, 1) := by decide +kernel
theorem dX8_compareRows_26 : decode cX8_compareRows 26 = .ok (.invokevirtual 35, 3) := by decide +kernel
theorem dX8_compareRows_29 : decode cX8_compareRows 29 = .ok (.ifCond .ne 5, 3) := by decide +kernel
theorem dX8_compareRows_32 : decode cX8_compareRows 32 = .ok (.iconst 0, 1) := by decide +kernel
theorem dX8_compareRows_33 : decode cX8_compareRows 33 = .ok (.ireturn, 1) := by decide +kernel
theorem dX8_compareRows_34 : decode cX8_compareRows 34 = .ok (.aload_n 2, 1) := by decide +kernel
theorem dX8_compareRows_35 : decode cX8_compareRows 35 = .ok (.getfield 15, 3) := by decide +kernel
theorem dX8_compareRows_38 : decode cX8_compareRows 38 = .ok (.iload_n 3, 1) := by decide +kernel
theorem dX8_compareRows_39 : decode cX8_compareRows 39 = .ok (.iload 6, 2) := by decide +kernel
theorem dX8_compareRows_41 : decode cX8_compareRows 41 = .ok (.iadd, 1) := by decide +kernel
theorem dX8_compareRows_42 : decode cX8_compareRows 42 = .ok (.baload, 1) := by decide +kernel
theorem dX8_compareRows_43 : decode cX8_compareRows 43 = .ok (.aload_n 0, 1) := by decide +kernel
theorem dX8_compareRows_44 : decode cX8_compareRows 44 = .ok (.getfield 15, 3) := by decide +kernel
theorem dX8_compareRows_47 : decode cX8_compareRows 47 = .ok (.iload_n 1, 1) := by decide +kernel
theorem dX8_compareRows_48 : decode cX8_compareRows 48 = .ok (.iload 6, 2) := by decide +kernel
theorem dX8_compareRows_50 : decode cX8_compareRows 50 = .ok (.iadd, 1) := by decide +kernel
theorem dX8_compareRows_51 : decode cX8_compareRows 51 = .ok (.baload, 1) := by decide +kernel
theorem dX8_compareRows_52 : decode cX8_compareRows 52 = .ok (.isub, 1) := by decide +kernel
theorem dX8_compareRows_53 : decode cX8_compareRows 53 = .ok (.istore 7, 2) := by decide +kernel
theorem dX8_compareRows_55 : decode cX8_compareRows 55 = .ok (.iload 7, 2) := by decide +kernel
theorem dX8_compareRows_57 : decode cX8_compareRows 57 = .ok (.ifCond .ne 26, 3) := by decide +kernel
theorem dX8_compareRows_60 : decode cX8_compareRows 60 = .ok (.aload_n 0, 1) := by decide +kernel
theorem dX8_compareRows_61 : decode cX8_compareRows 61 = .ok (.getfield 11, 3) := by decide +kernel
theorem dX8_compareRows_64 : decode cX8_compareRows 64 = .ok (.iload_n 1, 1) := by decide +kernel
theorem dX8_compareRows_65 : decode cX8_compareRows 65 = .ok (.iload 6, 2) := by decide +kernel
theorem dX8_compareRows_67 : decode cX8_compareRows 67 = .ok (.iadd, 1) := by decide +kernel
theorem dX8_compareRows_68 : decode cX8_compareRows 68 = .ok (.laload, 1) := by decide +kernel
theorem dX8_compareRows_69 : decode cX8_compareRows 69 = .ok (.aload_n 2, 1) := by decide +kernel
theorem dX8_compareRows_70 : decode cX8_compareRows 70 = .ok (.getfield 11, 3) := by decide +kernel
theorem dX8_compareRows_73 : decode cX8_compareRows 73 = .ok (.iload_n 3, 1) := by decide +kernel
theorem dX8_compareRows_74 : decode cX8_compareRows 74 = .ok (.iload 6, 2) := by decide +kernel
theorem dX8_compareRows_76 : decode cX8_compareRows 76 = .ok (.iadd, 1) := by decide +kernel
theorem dX8_compareRows_77 : decode cX8_compareRows 77 = .ok (.laload, 1) := by decide +kernel
theorem dX8_compareRows_78 : decode cX8_compareRows 78 = .ok (.invokestatic 59, 3) := by decide +kernel
theorem dX8_compareRows_81 : decode cX8_compareRows 81 = .ok (.istore 7, 2) := by decide +kernel
theorem dX8_compareRows_83 : decode cX8_compareRows 83 = .ok (.iload 7, 2) := by decide +kernel
theorem dX8_compareRows_85 : decode cX8_compareRows 85 = .ok (.ifCond .eq 29, 3) := by decide +kernel
theorem dX8_compareRows_88 : decode cX8_compareRows 88 = .ok (.iload 6, 2) := by decide +kernel
theorem dX8_compareRows_90 : decode cX8_compareRows 90 = .ok (.bipush 8, 2) := by decide +kernel
theorem dX8_compareRows_92 : decode cX8_compareRows 92 = .ok (.if_icmp .ge 19, 3) := by decide +kernel
theorem dX8_compareRows_95 : decode cX8_compareRows 95 = .ok (.iload 5, 2) := by decide +kernel
theorem dX8_compareRows_97 : decode cX8_compareRows 97 = .ok (.iload 6, 2) := by decide +kernel
theorem dX8_compareRows_99 : decode cX8_compareRows 99 = .ok (.ishr, 1) := by decide +kernel
theorem dX8_compareRows_100 : decode cX8_compareRows 100 = .ok (.iconst 1, 1) := by decide +kernel
theorem dX8_compareRows_101 : decode cX8_compareRows 101 = .ok (.iand, 1) := by decide +kernel
theorem dX8_compareRows_102 : decode cX8_compareRows 102 = .ok (.ifCond .eq 9, 3) := by decide +kernel
theorem dX8_compareRows_105 : decode cX8_compareRows 105 = .ok (.iload 7, 2) := by decide +kernel
theorem dX8_compareRows_107 : decode cX8_compareRows 107 = .ok (.ineg, 1) := by decide +kernel
theorem dX8_compareRows_108 : decode cX8_compareRows 108 = .ok (.goto 5, 3) := by decide +kernel
theorem dX8_compareRows_111 : decode cX8_compareRows 111 = .ok (.iload 7, 2) := by decide +kernel
theorem dX8_compareRows_113 : decode cX8_compareRows 113 = .ok (.ireturn, 1) := by decide +kernel
theorem dX8_compareRows_114 : decode cX8_compareRows 114 = .ok (.iinc 6 1, 3) := by decide +kernel
theorem dX8_compareRows_117 : decode cX8_compareRows 117 = .ok (.goto (-114), 3) := by decide +kernel
theorem dX8_compareRows_120 : decode cX8_compareRows 120 = .ok (.iconst 0, 1) := by decide +kernel
theorem dX8_compareRows_121 : decode cX8_compareRows 121 = .ok (.ireturn, 1) := by decide +kernel
def c_X8_compareRows_b32 (F : Nat) (cs : CS) : Option Int32 := some 0
def c_X8_compareRows_b113 (F : Nat) (cs : CS) (y0 : Int32) : Option Int32 := some y0
def c_X8_compareRows_b111 (F : Nat) (cs : CS) (u7 : Int32) : Option Int32 := c_X8_compareRows_b113 F cs u7
def c_X8_compareRows_b83 (F : Nat) (cs : CS) (rc3 : Nat → Int32 → Nat → Int32 → Int32 → Int32 → Int32 → Option Int32) (u0 : Nat) (u1 : Int32) (u2 : Nat) (u3 : Int32) (u4 : Int32) (u5 : Int32) (u6 : Int32) (u7 : Int32) : Option Int32 := if u7 = 0 then (rc3 u0 u1 u2 u3 u4 u5 (u6 + 1)) else (if 8 ≤ u6 then (c_X8_compareRows_b111 F cs u7) else (if ((u5 >>> (u6 &&& 31)) &&& 1) = 0 then (c_X8_compareRows_b111 F cs u7) else (c_X8_compareRows_b113 F cs (-u7))))
def c_X8_compareRows_L3 (F : Nat) (cs : CS) : Nat → Nat → Int32 → Nat → Int32 → Int32 → Int32 → Int32 → Option Int32
  | 0, _, _, _, _, _, _, _ => none
  | lf_3 + 1, u0, u1, u2, u3, u4, u5, u6 => if u4 ≤ u6 then (some 0) else (Option.bind (ckE cs 9 u0) fun _ => Option.bind (c_X8_holds F cs u0 (u1 + u6)) fun v_5 => if v_5 = 0 then (c_X8_compareRows_b32 F cs ) else (Option.bind (ckE cs 9 u2) fun _ => Option.bind (c_X8_holds F cs u2 (u3 + u6)) fun v_8 => if v_8 = 0 then (c_X8_compareRows_b32 F cs ) else (Option.bind (gA cs 9 289 u2) fun v_11 => Option.bind (rA cs 289 u2 v_11 (u3 + u6)) fun v_12 => Option.bind (gA cs 9 289 u0) fun v_13 => Option.bind (rA cs 289 u0 v_13 (u1 + u6)) fun v_14 => if (v_12 - v_14) = 0 then (Option.bind (gA cs 9 288 u0) fun v_16 => Option.bind (rB cs 288 u0 v_16 (u1 + u6)) fun v_17 => Option.bind (gA cs 9 288 u2) fun v_18 => Option.bind (rB cs 288 u2 v_18 (u3 + u6)) fun v_19 => Option.bind (c_J13_compare_74951 F cs v_17 v_19) fun v_20 => c_X8_compareRows_b83 F cs (c_X8_compareRows_L3 F cs lf_3) u0 u1 u2 u3 u4 u5 u6 v_20) else (c_X8_compareRows_b83 F cs (c_X8_compareRows_L3 F cs lf_3) u0 u1 u2 u3 u4 u5 u6 (v_12 - v_14)))))
def c_X8_compareRows (F : Nat) (cs : CS) (x0 : Nat) (x1 : Int32) (x2 : Nat) (x3 : Int32) (x4 : Int32) (x5 : Int32) : Option Int32 := c_X8_compareRows_L3 F cs F x0 x1 x2 x3 x4 x5 0
theorem cw_X4_X8_compareRows {R : Room} {s : State} {args : Array Value} {y0 : MethodName} {c0 : ByteArray} {n0 : Nat} {r0 : Option FieldType} (hts : ∀ w ∈ wsOf y0 c0 n0 r0, w.before args s = true) {fr : Nat} (h1 : fr + 1 ≤ R.frames) (h2 : 8 + (8 + 11) + 60 * fr ≤ R.locals) : CallW R s args RX4 RX8 85 yX8_compareRows cX8_compareRows 8 (some .int) (wsOf yX8_compareRows cX8_compareRows 8 (some .int)) ({ frames := fr, cells := 0, slots := 0, locals := 60 * fr } : Room) 0 0 5 := cwV 5 hts (gd_all (in_V kw_1507 kw_1498 kw_1499 kw_188 kc_X8_compareRows)) rfl rfl rfl (by decide +kernel) ⟨h1, h2⟩
theorem cw_X8_X8_compareRows {R : Room} {s : State} {args : Array Value} {y0 : MethodName} {c0 : ByteArray} {n0 : Nat} {r0 : Option FieldType} (hts : ∀ w ∈ wsOf y0 c0 n0 r0, w.before args s = true) {fr : Nat} (h1 : fr + 1 ≤ R.frames) (h2 : 8 + (8 + 11) + 60 * fr ≤ R.locals) : CallW R s args RX8 RX8 65 yX8_compareRows cX8_compareRows 8 (some .int) (wsOf yX8_compareRows cX8_compareRows 8 (some .int)) ({ frames := fr, cells := 0, slots := 0, locals := 60 * fr } : Room) 0 0 5 := cwV 5 hts (gd_all (in_V kw_1497 kw_1498 kw_1499 kw_188 kc_X8_compareRows)) rfl rfl rfl (by decide +kernel) ⟨h1, h2⟩
theorem cw_X11_X8_compareRows {R : Room} {s : State} {args : Array Value} {y0 : MethodName} {c0 : ByteArray} {n0 : Nat} {r0 : Option FieldType} (hts : ∀ w ∈ wsOf y0 c0 n0 r0, w.before args s = true) {fr : Nat} (h1 : fr + 1 ≤ R.frames) (h2 : 8 + (8 + 11) + 60 * fr ≤ R.locals) : CallW R s args RX11 RX8 229 yX8_compareRows cX8_compareRows 8 (some .int) (wsOf yX8_compareRows cX8_compareRows 8 (some .int)) ({ frames := fr, cells := 0, slots := 0, locals := 60 * fr } : Room) 0 0 5 := cwV 5 hts (gd_all (in_V kw_1563 kw_1498 kw_1499 kw_188 kc_X8_compareRows)) rfl rfl rfl (by decide +kernel) ⟨h1, h2⟩
set_option maxHeartbeats 4000000 in
set_option maxRecDepth 100000 in
theorem sc_X8_compareRows (l : Launch) (dC : Nat → ClassId) (dI : Nat → Nat → Nat) (cB cI cJ cZ cS cO : ClassId) (b : Nat) (K V : Nat → Nat) (fz : Value) (F : Nat) (cs : CS) (x0 : Nat) (x1 : Int32) (x2 : Nat) (x3 : Int32) (x4 : Int32) (x5 : Int32) (r9 : Int32) (hf : c_X8_compareRows F cs x0 x1 x2 x3 x4 x5 = some r9) : ocI l dC dI cB cI cJ cZ cS cO b K V fz yX8_compareRows (wsOf yX8_compareRows cX8_compareRows 8 (some .int)) (1) [.ref (b + x0), .int x1, .ref (b + x2), .int x3, .int x4, .int x5] cs cs r9 := by
  intro sz
  refine Met.ofW (cc := cX8_compareRows) (maxL := 8) (ret := (some .int)) (by decide) rfl ?_
  intro p e s m args below meth c s₁ B hml hv
  obtain ⟨rfl, hsz, hP, hK, hD0, hZ⟩ := hv
  have hx := B.exec
  have hb := B.bytes
  have hr := B.returns
  have hts := atoms_spec (ws := (wsOf yX8_compareRows cX8_compareRows 8 (some .int))) B.pre
  have hown : s.vm.findClass RX8 = some m.cls := findClass_of_methodNamed B.named
  have hlocks := B.notSynchronized
  subst hsz
  have hD := hD0.self (sz := s.heap.size)
  generalize hAe : va_A (cW cB cI cJ cZ cS cO b cs) s.heap.size = A at hD hZ ⊢
  have hA : ∀ q : Nat, s.heap.size ≤ q → A q := fun q h => by rw [← hAe]; exact Or.inr h
  have hS : va_S A s.heap s.heap [] := va_S.rf
  have hl := lv_entry ([.ref (b + x0), .int x1, .ref (b + x2), .int x3, .int x4, .int x5]) (n := 8) (Nat.le_of_ble_eq_true rfl)
  rw [lg_entry_eq]
  generalize (lg_sl ([.ref (b + x0), .int x1, .ref (b + x2), .int x3, .int x4, .int x5]) ++ List.replicate (8 - (lg_sl ([.ref (b + x0), .int x1, .ref (b + x2), .int x3, .int x4, .int x5])).length) Slot.unset).toArray = ls at hl ⊢
  have hl : lv_has ls 8 [(0, .ref (b + x0)), (1, .int x1), (2, .ref (b + x2)), (3, .int x3), (4, .int x4), (5, .int x5)] := hl
  have B_32 : c_X8_compareRows_b32 F cs = some r9 → ∀ (H : Heap) (locs : List Loc) (ls : Array Slot), va_P (dC, dI) vwCl (cW cB cI cJ cZ cS cO b cs) H → va_D A (cW cB cI cJ cZ cS cO b cs) → va_S A s.heap H locs → lv_has ls 8 [] → W p l e (headSpec (wsOf yX8_compareRows cX8_compareRows 8 (some .int)) ({ frames := 1, cells := 0, slots := 0, locals := 60 * (1) } : Room)).room s m ([.ref (b + x0), .int x1, .ref (b + x2), .int x3, .int x4, .int x5] : List Value).toArray below meth c H locs 0 0 (MQ below (va_Qi (fun (x : Int32) (_ : Unit) => x = r9) (fun _ t_ => va_P (dC, dI) vwCl (cW cB cI cJ cZ cS cO b cs) t_.heap ∧ va_D A (cW cB cI cJ cZ cS cO b cs)) A) ([.ref (b + x0), .int x1, .ref (b + x2), .int x3, .int x4, .int x5] : List Value).toArray s 0 0 A) (F0 m 32 ls []) := by
    intro  h H locs ls hP hD hS hl
    unfold c_X8_compareRows_b32 at h
    refine lv_iconst (v := 0) hx hb dX8_compareRows_32 (by decide) ?_
    have e2 := Option.some.inj h
    exact W.iret (v := 0) hx hb hr (fun t_ ht hW => ⟨⟨0, (), rfl, e2, by rw [ht]; exact hP, hD⟩, hS.F ht⟩) hS.2.2 dX8_compareRows_33
  have B_113 : ∀ (y0 : Int32), c_X8_compareRows_b113 F cs y0 = some r9 → ∀ (H : Heap) (locs : List Loc) (ls : Array Slot), va_P (dC, dI) vwCl (cW cB cI cJ cZ cS cO b cs) H → va_D A (cW cB cI cJ cZ cS cO b cs) → va_S A s.heap H locs → lv_has ls 8 [] → W p l e (headSpec (wsOf yX8_compareRows cX8_compareRows 8 (some .int)) ({ frames := 1, cells := 0, slots := 0, locals := 60 * (1) } : Room)).room s m ([.ref (b + x0), .int x1, .ref (b + x2), .int x3, .int x4, .int x5] : List Value).toArray below meth c H locs 0 0 (MQ below (va_Qi (fun (x : Int32) (_ : Unit) => x = r9) (fun _ t_ => va_P (dC, dI) vwCl (cW cB cI cJ cZ cS cO b cs) t_.heap ∧ va_D A (cW cB cI cJ cZ cS cO b cs)) A) ([.ref (b + x0), .int x1, .ref (b + x2), .int x3, .int x4, .int x5] : List Value).toArray s 0 0 A) (F0 m 113 ls [.int y0]) := by
    intro y0 h H locs ls hP hD hS hl
    unfold c_X8_compareRows_b113 at h
    have e2 := Option.some.inj h
    exact W.iret (v := y0) hx hb hr (fun t_ ht hW => ⟨⟨y0, (), rfl, e2, by rw [ht]; exact hP, hD⟩, hS.F ht⟩) hS.2.2 dX8_compareRows_113
  have B_111 : ∀ (u7 : Int32), c_X8_compareRows_b111 F cs u7 = some r9 → ∀ (H : Heap) (locs : List Loc) (ls : Array Slot), va_P (dC, dI) vwCl (cW cB cI cJ cZ cS cO b cs) H → va_D A (cW cB cI cJ cZ cS cO b cs) → va_S A s.heap H locs → lv_has ls 8 [(7, .int u7)] → W p l e (headSpec (wsOf yX8_compareRows cX8_compareRows 8 (some .int)) ({ frames := 1, cells := 0, slots := 0, locals := 60 * (1) } : Room)).room s m ([.ref (b + x0), .int x1, .ref (b + x2), .int x3, .int x4, .int x5] : List Value).toArray below meth c H locs 0 0 (MQ below (va_Qi (fun (x : Int32) (_ : Unit) => x = r9) (fun _ t_ => va_P (dC, dI) vwCl (cW cB cI cJ cZ cS cO b cs) t_.heap ∧ va_D A (cW cB cI cJ cZ cS cO b cs)) A) ([.ref (b + x0), .int x1, .ref (b + x2), .int x3, .int x4, .int x5] : List Value).toArray s 0 0 A) (F0 m 111 ls []) := by
    intro u7 h H locs ls hP hD hS hl
    unfold c_X8_compareRows_b111 at h
    refine lv_iload hx hb dX8_compareRows_111 (lv_at hl 0 rfl) ?_
    exact B_113 u7 h _ _ _ hP hD hS (lv_sub hl [] rfl)
  have L_3 : ∀ (lf_3 : Nat), ∀ (u0 : Nat) (u1 : Int32) (u2 : Nat) (u3 : Int32) (u4 : Int32) (u5 : Int32) (u6 : Int32), c_X8_compareRows_L3 F cs lf_3 u0 u1 u2 u3 u4 u5 u6 = some r9 → ∀ (H : Heap) (locs : List Loc) (ls : Array Slot), va_P (dC, dI) vwCl (cW cB cI cJ cZ cS cO b cs) H → va_D A (cW cB cI cJ cZ cS cO b cs) → va_S A s.heap H locs → lv_has ls 8 [(0, .ref (b + u0)), (1, .int u1), (2, .ref (b + u2)), (3, .int u3), (4, .int u4), (5, .int u5), (6, .int u6)] → W p l e (headSpec (wsOf yX8_compareRows cX8_compareRows 8 (some .int)) ({ frames := 1, cells := 0, slots := 0, locals := 60 * (1) } : Room)).room s m ([.ref (b + x0), .int x1, .ref (b + x2), .int x3, .int x4, .int x5] : List Value).toArray below meth c H locs 0 0 (MQ below (va_Qi (fun (x : Int32) (_ : Unit) => x = r9) (fun _ t_ => va_P (dC, dI) vwCl (cW cB cI cJ cZ cS cO b cs) t_.heap ∧ va_D A (cW cB cI cJ cZ cS cO b cs)) A) ([.ref (b + x0), .int x1, .ref (b + x2), .int x3, .int x4, .int x5] : List Value).toArray s 0 0 A) (F0 m 3 ls []) := by
    intro lf_3
    induction lf_3 with
    | zero => intro u0 u1 u2 u3 u4 u5 u6 h; cases (show (none : Option Int32) = _ from h)
    | succ lf_3 ih_3 =>
      have B_83 : ∀ (u0 : Nat) (u1 : Int32) (u2 : Nat) (u3 : Int32) (u4 : Int32) (u5 : Int32) (u6 : Int32) (u7 : Int32), c_X8_compareRows_b83 F cs (c_X8_compareRows_L3 F cs lf_3) u0 u1 u2 u3 u4 u5 u6 u7 = some r9 → ∀ (H : Heap) (locs : List Loc) (ls : Array Slot), va_P (dC, dI) vwCl (cW cB cI cJ cZ cS cO b cs) H → va_D A (cW cB cI cJ cZ cS cO b cs) → va_S A s.heap H locs → lv_has ls 8 [(0, .ref (b + u0)), (1, .int u1), (2, .ref (b + u2)), (3, .int u3), (4, .int u4), (5, .int u5), (6, .int u6), (7, .int u7)] → W p l e (headSpec (wsOf yX8_compareRows cX8_compareRows 8 (some .int)) ({ frames := 1, cells := 0, slots := 0, locals := 60 * (1) } : Room)).room s m ([.ref (b + x0), .int x1, .ref (b + x2), .int x3, .int x4, .int x5] : List Value).toArray below meth c H locs 0 0 (MQ below (va_Qi (fun (x : Int32) (_ : Unit) => x = r9) (fun _ t_ => va_P (dC, dI) vwCl (cW cB cI cJ cZ cS cO b cs) t_.heap ∧ va_D A (cW cB cI cJ cZ cS cO b cs)) A) ([.ref (b + x0), .int x1, .ref (b + x2), .int x3, .int x4, .int x5] : List Value).toArray s 0 0 A) (F0 m 83 ls []) := by
        intro u0 u1 u2 u3 u4 u5 u6 u7 h H locs ls hP hD hS hl
        unfold c_X8_compareRows_b83 at h
        refine lv_iload hx hb dX8_compareRows_83 (lv_at hl 7 rfl) ?_
        refine lv_if_eq (tgt := 114) hx hb dX8_compareRows_85 (by decide) (fun c_1 => ?_) (fun c_1 => ?_)
        · skip
          replace h := (if_pos c_1).symm.trans h
          refine lv_iinc (v := u6 + 1) (lv' := [(6, .int (u6 + 1)), (0, .ref (b + u0)), (1, .int u1), (2, .ref (b + u2)), (3, .int u3), (4, .int u4), (5, .int u5), (7, .int u7)]) hx hb dX8_compareRows_114 hl (k := 6) rfl rfl (by decide) rfl (fun ls hl => ?_)
          refine lv_goto (tgt := 3) hx hb dX8_compareRows_117 (by decide) ?_
          exact ih_3 u0 u1 u2 u3 u4 u5 (u6 + 1) h _ _ _ hP hD hS (lv_sub hl [1, 2, 3, 4, 5, 6, 0] rfl)
        · skip
          replace h := (if_neg c_1).symm.trans h
          refine lv_iload hx hb dX8_compareRows_88 (lv_at hl 6 rfl) ?_
          refine lv_bipush (v := 8) hx hb dX8_compareRows_90 (by decide) ?_
          refine lv_icmp_ge (tgt := 111) hx hb dX8_compareRows_92 (by decide) (fun c_2 => ?_) (fun c_2 => ?_)
          · skip
            replace h := (if_pos c_2).symm.trans h
            exact B_111 u7 h _ _ _ hP hD hS (lv_sub hl [7] rfl)
          · skip
            replace h := (if_neg c_2).symm.trans h
            refine lv_iload hx hb dX8_compareRows_95 (lv_at hl 5 rfl) ?_
            refine lv_iload hx hb dX8_compareRows_97 (lv_at hl 6 rfl) ?_
            refine lv_ishr hx hb dX8_compareRows_99 ?_
            refine lv_iconst (v := 1) hx hb dX8_compareRows_100 (by decide) ?_
            refine lv_iand hx hb dX8_compareRows_101 ?_
            refine lv_if_eq (tgt := 111) hx hb dX8_compareRows_102 (by decide) (fun c_3 => ?_) (fun c_3 => ?_)
            · skip
              replace h := (if_pos c_3).symm.trans h
              exact B_111 u7 h _ _ _ hP hD hS (lv_sub hl [7] rfl)
            · skip
              replace h := (if_neg c_3).symm.trans h
              refine lv_iload hx hb dX8_compareRows_105 (lv_at hl 7 rfl) ?_
              refine lv_ineg hx hb dX8_compareRows_107 ?_
              refine lv_goto (tgt := 113) hx hb dX8_compareRows_108 (by decide) ?_
              exact B_113 (-u7) h _ _ _ hP hD hS (lv_sub hl [] rfl)
      intro u0 u1 u2 u3 u4 u5 u6 h H locs ls hP hD hS hl
      rw [c_X8_compareRows_L3] at h
      refine lv_iload hx hb dX8_compareRows_3 (lv_at hl 6 rfl) ?_
      refine lv_iload hx hb dX8_compareRows_5 (lv_at hl 4 rfl) ?_
      refine lv_icmp_ge (tgt := 120) hx hb dX8_compareRows_7 (by decide) (fun c_4 => ?_) (fun c_4 => ?_)
      · skip
        replace h := (if_pos c_4).symm.trans h
        refine lv_iconst (v := 0) hx hb dX8_compareRows_120 (by decide) ?_
        have e2 := Option.some.inj h
        exact W.iret (v := 0) hx hb hr (fun t_ ht hW => ⟨⟨0, (), rfl, e2, by rw [ht]; exact hP, hD⟩, hS.F ht⟩) hS.2.2 dX8_compareRows_121
      · skip
        replace h := (if_neg c_4).symm.trans h
        refine lv_aload_n hx hb dX8_compareRows_10 rfl (lv_at hl 0 rfl) ?_
        refine lv_iload_n hx hb dX8_compareRows_11 rfl (lv_at hl 1 rfl) ?_
        refine lv_iload hx hb dX8_compareRows_12 (lv_at hl 6 rfl) ?_
        refine lv_iadd hx hb dX8_compareRows_14 ?_
        replace h := ob h; obtain ⟨w_6, hw_6, h⟩ := h
        replace h := ob h; obtain ⟨v_5, hv_5, h⟩ := h
        refine ccI (As := [.int (u1 + u6)]) hx hb hml hts hown hK hP hD hS hA hZ (X := 9) (by decide) rfl (ckE_some hw_6) (sc_X8_holds l dC dI cB cI cJ cZ cS cO b K V fz F cs u0 (u1 + u6) v_5 hv_5) (cw_X8_X8_holds hts (fr := 0) (Nat.le_of_ble_eq_true rfl) (Nat.le_of_ble_eq_true rfl)) rfl hl.1 (Nat.le_of_ble_eq_true rfl) ⟨Nat.zero_le _, Nat.zero_le _⟩ dX8_compareRows_15 (fun H locs hP hD hS => ?_)
        refine lv_if_eq (tgt := 32) hx hb dX8_compareRows_18 (by decide) (fun c_7 => ?_) (fun c_7 => ?_)
        · skip
          replace h := (if_pos c_7).symm.trans h
          exact B_32  h _ _ _ hP hD hS (lv_sub hl [] rfl)
        · skip
          replace h := (if_neg c_7).symm.trans h
          refine lv_aload_n hx hb dX8_compareRows_21 rfl (lv_at hl 2 rfl) ?_
          refine lv_iload_n hx hb dX8_compareRows_22 rfl (lv_at hl 3 rfl) ?_
          refine lv_iload hx hb dX8_compareRows_23 (lv_at hl 6 rfl) ?_
          refine lv_iadd hx hb dX8_compareRows_25 ?_
          replace h := ob h; obtain ⟨w_9, hw_9, h⟩ := h
          replace h := ob h; obtain ⟨v_8, hv_8, h⟩ := h
          refine ccI (As := [.int (u3 + u6)]) hx hb hml hts hown hK hP hD hS hA hZ (X := 9) (by decide) rfl (ckE_some hw_9) (sc_X8_holds l dC dI cB cI cJ cZ cS cO b K V fz F cs u2 (u3 + u6) v_8 hv_8) (cw_X8_X8_holds hts (fr := 0) (Nat.le_of_ble_eq_true rfl) (Nat.le_of_ble_eq_true rfl)) rfl hl.1 (Nat.le_of_ble_eq_true rfl) ⟨Nat.zero_le _, Nat.zero_le _⟩ dX8_compareRows_26 (fun H locs hP hD hS => ?_)
          refine lv_if_ne (tgt := 34) hx hb dX8_compareRows_29 (by decide) (fun c_10 => ?_) (fun c_10 => ?_)
          · skip
            replace h := (if_neg c_10).symm.trans h
            refine lv_aload_n hx hb dX8_compareRows_34 rfl (lv_at hl 2 rfl) ?_
            replace h := ob h; obtain ⟨v_11, hv_11, h⟩ := h
            refine fg_X8_15 hx hb hts hown hK hP hv_11 dX8_compareRows_35 ?_
            refine lv_iload_n hx hb dX8_compareRows_38 rfl (lv_at hl 3 rfl) ?_
            refine lv_iload hx hb dX8_compareRows_39 (lv_at hl 6 rfl) ?_
            refine lv_iadd hx hb dX8_compareRows_41 ?_
            replace h := ob h; obtain ⟨v_12, hv_12, h⟩ := h
            refine ald1 hx hb hK hP rfl hv_12 dX8_compareRows_42 ?_
            refine lv_aload_n hx hb dX8_compareRows_43 rfl (lv_at hl 0 rfl) ?_
            replace h := ob h; obtain ⟨v_13, hv_13, h⟩ := h
            refine fg_X8_15 hx hb hts hown hK hP hv_13 dX8_compareRows_44 ?_
            refine lv_iload_n hx hb dX8_compareRows_47 rfl (lv_at hl 1 rfl) ?_
            refine lv_iload hx hb dX8_compareRows_48 (lv_at hl 6 rfl) ?_
            refine lv_iadd hx hb dX8_compareRows_50 ?_
            replace h := ob h; obtain ⟨v_14, hv_14, h⟩ := h
            refine ald1 hx hb hK hP rfl hv_14 dX8_compareRows_51 ?_
            refine lv_isub hx hb dX8_compareRows_52 ?_
            refine lv_istore (lv' := [(7, .int (v_12 - v_14)), (0, .ref (b + u0)), (1, .int u1), (2, .ref (b + u2)), (3, .int u3), (4, .int u4), (5, .int u5), (6, .int u6)]) hx hb dX8_compareRows_53 hl (by decide) rfl (fun ls hl => ?_)
            refine lv_iload hx hb dX8_compareRows_55 (lv_at hl 0 rfl) ?_
            refine lv_if_ne (tgt := 83) hx hb dX8_compareRows_57 (by decide) (fun c_15 => ?_) (fun c_15 => ?_)
            · skip
              replace h := (if_neg c_15).symm.trans h
              exact B_83 u0 u1 u2 u3 u4 u5 u6 (v_12 - v_14) h _ _ _ hP hD hS (lv_sub hl [1, 2, 3, 4, 5, 6, 7, 0] rfl)
            · skip
              replace h := (if_pos c_15).symm.trans h
              refine lv_aload_n hx hb dX8_compareRows_60 rfl (lv_at hl 1 rfl) ?_
              replace h := ob h; obtain ⟨v_16, hv_16, h⟩ := h
              refine fg_X8_11 hx hb hts hown hK hP hv_16 dX8_compareRows_61 ?_
              refine lv_iload_n hx hb dX8_compareRows_64 rfl (lv_at hl 2 rfl) ?_
              refine lv_iload hx hb dX8_compareRows_65 (lv_at hl 7 rfl) ?_
              refine lv_iadd hx hb dX8_compareRows_67 ?_
              replace h := ob h; obtain ⟨v_17, hv_17, h⟩ := h
              refine ald2 hx hb hK hP rfl hv_17 dX8_compareRows_68 ?_
              refine lv_aload_n hx hb dX8_compareRows_69 rfl (lv_at hl 3 rfl) ?_
              replace h := ob h; obtain ⟨v_18, hv_18, h⟩ := h
              refine fg_X8_11 hx hb hts hown hK hP hv_18 dX8_compareRows_70 ?_
              refine lv_iload_n hx hb dX8_compareRows_73 rfl (lv_at hl 4 rfl) ?_
              refine lv_iload hx hb dX8_compareRows_74 (lv_at hl 7 rfl) ?_
              refine lv_iadd hx hb dX8_compareRows_76 ?_
              replace h := ob h; obtain ⟨v_19, hv_19, h⟩ := h
              refine ald2 hx hb hK hP rfl hv_19 dX8_compareRows_77 ?_
              replace h := ob h; obtain ⟨v_20, hv_20, h⟩ := h
              refine ccSI (As := [.long v_17, .long v_19]) hx hb hml hts hown hK hP hD hS hA hZ (sc_J13_compare_74951 l dC dI cB cI cJ cZ cS cO b K V fz F cs v_17 v_19 v_20 hv_20) (cw_X8_J13_compare_74951 hts (fr := 0) (Nat.le_of_ble_eq_true rfl) (Nat.le_of_ble_eq_true rfl)) rfl hl.1 (Nat.le_of_ble_eq_true rfl) ⟨Nat.zero_le _, Nat.zero_le _⟩ dX8_compareRows_78 (fun H locs hP hD hS => ?_)
              refine lv_istore (lv' := [(7, .int v_20), (0, .ref (b + u0)), (1, .int u1), (2, .ref (b + u2)), (3, .int u3), (4, .int u4), (5, .int u5), (6, .int u6)]) hx hb dX8_compareRows_81 hl (by decide) rfl (fun ls hl => ?_)
              exact B_83 u0 u1 u2 u3 u4 u5 u6 v_20 h _ _ _ hP hD hS (lv_sub hl [1, 2, 3, 4, 5, 6, 7, 0] rfl)
          · skip
            replace h := (if_pos c_10).symm.trans h
            exact B_32  h _ _ _ hP hD hS (lv_sub hl [] rfl)
  have h := hf
  unfold c_X8_compareRows at h
  refine lv_iconst (v := 0) hx hb dX8_compareRows_0 (by decide) ?_
  refine lv_istore (lv' := [(6, .int 0), (0, .ref (b + x0)), (1, .int x1), (2, .ref (b + x2)), (3, .int x3), (4, .int x4), (5, .int x5)]) hx hb dX8_compareRows_1 hl (by decide) rfl (fun ls hl => ?_)
  exact L_3 F x0 x1 x2 x3 x4 x5 0 h _ _ _ hP hD hS (lv_sub hl [1, 2, 3, 4, 5, 6, 0] rfl)
theorem dX8_repeats_0 : decode cX8_repeats 0 = .ok (.iconst 1, 1) := by decide +kernel
theorem dX8_repeats_1 : decode cX8_repeats 1 = .ok (.istore 4, 2) := by decide +kernel
theorem dX8_repeats_3 : decode cX8_repeats 3 = .ok (.iload_n 1, 1) := by decide +kernel
theorem dX8_repeats_4 : decode cX8_repeats 4 = .ok (.iload 4, 2) := by decide +kernel
theorem dX8_repeats_6 : decode cX8_repeats 6 = .ok (.iadd, 1) := by decide +kernel
theorem dX8_repeats_7 : decode cX8_repeats 7 = .ok (.iload_n 2, 1) := by decide +kernel
theorem dX8_repeats_8 : decode cX8_repeats 8 = .ok (.if_icmp .ge 28, 3) := by decide +kernel
theorem dX8_repeats_11 : decode cX8_repeats 11 = .ok (.aload_n 0, 1) := by decide +kernel
theorem dX8_repeats_12 : decode cX8_repeats 12 = .ok (.iload_n 1, 1) := by decide +kernel
theorem dX8_repeats_13 : decode cX8_repeats 13 = .ok (.iload_n 3, 1) := by decide +kernel
theorem dX8_repeats_14 : decode cX8_repeats 14 = .ok (.imul, 1) := by decide +kernel
theorem dX8_repeats_15 : decode cX8_repeats 15 = .ok (.aload_n 0, 1) := by decide +kernel
theorem dX8_repeats_16 : decode cX8_repeats 16 = .ok (.iload_n 1, 1) := by decide +kernel
theorem dX8_repeats_17 : decode cX8_repeats 17 = .ok (.iload 4, 2) := by decide +kernel
theorem dX8_repeats_19 : decode cX8_repeats 19 = .ok (.iadd, 1) := by decide +kernel
theorem dX8_repeats_20 : decode cX8_repeats 20 = .ok (.iload_n 3, 1) := by decide +kernel
theorem dX8_repeats_21 : decode cX8_repeats 21 = .ok (.imul, 1) := by decide +kernel
theorem dX8_repeats_22 : decode cX8_repeats 22 = .ok (.iload_n 3, 1) := by decide +kernel
theorem dX8_repeats_23 : decode cX8_repeats 23 = .ok (.iconst 0, 1) := by decide +kernel
theorem dX8_repeats_24 : decode cX8_repeats 24 = .ok (.invokevirtual 65, 3) := by decide +kernel
theorem dX8_repeats_27 : decode cX8_repeats 27 = .ok (.ifCond .ne 9, 3) := by decide +kernel
theorem dX8_repeats_30 : decode cX8_repeats 30 = .ok (.iinc 4 1, 3) := by decide +kernel
theorem dX8_repeats_33 : decode cX8_repeats 33 = .ok (.goto (-30), 3) := by decide +kernel
theorem dX8_repeats_36 : decode cX8_repeats 36 = .ok (.iload 4, 2) := by decide +kernel
theorem dX8_repeats_38 : decode cX8_repeats 38 = .ok (.ireturn, 1) := by decide +kernel
def c_X8_repeats_b36 (F : Nat) (cs : CS) (u4 : Int32) : Option Int32 := some u4
def c_X8_repeats_L3 (F : Nat) (cs : CS) : Nat → Nat → Int32 → Int32 → Int32 → Int32 → Option Int32
  | 0, _, _, _, _, _ => none
  | lf_3 + 1, u0, u1, u2, u3, u4 => if u2 ≤ (u1 + u4) then (c_X8_repeats_b36 F cs u4) else (Option.bind (ckE cs 9 u0) fun _ => Option.bind (c_X8_compareRows F cs u0 (u1 * u3) u0 ((u1 + u4) * u3) u3 0) fun v_2 => if v_2 = 0 then ((c_X8_repeats_L3 F cs lf_3) u0 u1 u2 u3 (u4 + 1)) else (c_X8_repeats_b36 F cs u4))
def c_X8_repeats (F : Nat) (cs : CS) (x0 : Nat) (x1 : Int32) (x2 : Int32) (x3 : Int32) : Option Int32 := c_X8_repeats_L3 F cs F x0 x1 x2 x3 1
theorem cw_X11_X8_repeats {R : Room} {s : State} {args : Array Value} {y0 : MethodName} {c0 : ByteArray} {n0 : Nat} {r0 : Option FieldType} (hts : ∀ w ∈ wsOf y0 c0 n0 r0, w.before args s = true) {fr : Nat} (h1 : fr + 1 ≤ R.frames) (h2 : 8 + (5 + 11) + 60 * fr ≤ R.locals) : CallW R s args RX11 RX8 226 yX8_repeats cX8_repeats 5 (some .int) (wsOf yX8_repeats cX8_repeats 5 (some .int)) ({ frames := fr, cells := 0, slots := 0, locals := 60 * fr } : Room) 0 0 3 := cwV 3 hts (gd_all (in_V kw_1559 kw_1560 kw_1561 kw_188 kc_X8_repeats)) rfl rfl rfl (by decide +kernel) ⟨h1, h2⟩
set_option maxHeartbeats 4000000 in
set_option maxRecDepth 100000 in
theorem sc_X8_repeats (l : Launch) (dC : Nat → ClassId) (dI : Nat → Nat → Nat) (cB cI cJ cZ cS cO : ClassId) (b : Nat) (K V : Nat → Nat) (fz : Value) (F : Nat) (cs : CS) (x0 : Nat) (x1 : Int32) (x2 : Int32) (x3 : Int32) (r9 : Int32) (hf : c_X8_repeats F cs x0 x1 x2 x3 = some r9) : ocI l dC dI cB cI cJ cZ cS cO b K V fz yX8_repeats (wsOf yX8_repeats cX8_repeats 5 (some .int)) (2) [.ref (b + x0), .int x1, .int x2, .int x3] cs cs r9 := by
  intro sz
  refine Met.ofW (cc := cX8_repeats) (maxL := 5) (ret := (some .int)) (by decide) rfl ?_
  intro p e s m args below meth c s₁ B hml hv
  obtain ⟨rfl, hsz, hP, hK, hD0, hZ⟩ := hv
  have hx := B.exec
  have hb := B.bytes
  have hr := B.returns
  have hts := atoms_spec (ws := (wsOf yX8_repeats cX8_repeats 5 (some .int))) B.pre
  have hown : s.vm.findClass RX8 = some m.cls := findClass_of_methodNamed B.named
  have hlocks := B.notSynchronized
  subst hsz
  have hD := hD0.self (sz := s.heap.size)
  generalize hAe : va_A (cW cB cI cJ cZ cS cO b cs) s.heap.size = A at hD hZ ⊢
  have hA : ∀ q : Nat, s.heap.size ≤ q → A q := fun q h => by rw [← hAe]; exact Or.inr h
  have hS : va_S A s.heap s.heap [] := va_S.rf
  have hl := lv_entry ([.ref (b + x0), .int x1, .int x2, .int x3]) (n := 5) (Nat.le_of_ble_eq_true rfl)
  rw [lg_entry_eq]
  generalize (lg_sl ([.ref (b + x0), .int x1, .int x2, .int x3]) ++ List.replicate (5 - (lg_sl ([.ref (b + x0), .int x1, .int x2, .int x3])).length) Slot.unset).toArray = ls at hl ⊢
  have hl : lv_has ls 5 [(0, .ref (b + x0)), (1, .int x1), (2, .int x2), (3, .int x3)] := hl
  have B_36 : ∀ (u4 : Int32), c_X8_repeats_b36 F cs u4 = some r9 → ∀ (H : Heap) (locs : List Loc) (ls : Array Slot), va_P (dC, dI) vwCl (cW cB cI cJ cZ cS cO b cs) H → va_D A (cW cB cI cJ cZ cS cO b cs) → va_S A s.heap H locs → lv_has ls 5 [(4, .int u4)] → W p l e (headSpec (wsOf yX8_repeats cX8_repeats 5 (some .int)) ({ frames := 2, cells := 0, slots := 0, locals := 60 * (2) } : Room)).room s m ([.ref (b + x0), .int x1, .int x2, .int x3] : List Value).toArray below meth c H locs 0 0 (MQ below (va_Qi (fun (x : Int32) (_ : Unit) => x = r9) (fun _ t_ => va_P (dC, dI) vwCl (cW cB cI cJ cZ cS cO b cs) t_.heap ∧ va_D A (cW cB cI cJ cZ cS cO b cs)) A) ([.ref (b + x0), .int x1, .int x2, .int x3] : List Value).toArray s 0 0 A) (F0 m 36 ls []) := by
    intro u4 h H locs ls hP hD hS hl
    unfold c_X8_repeats_b36 at h
    refine lv_iload hx hb dX8_repeats_36 (lv_at hl 0 rfl) ?_
    have e2 := Option.some.inj h
    exact W.iret (v := u4) hx hb hr (fun t_ ht hW => ⟨⟨u4, (), rfl, e2, by rw [ht]; exact hP, hD⟩, hS.F ht⟩) hS.2.2 dX8_repeats_38
  have L_3 : ∀ (lf_3 : Nat), ∀ (u0 : Nat) (u1 : Int32) (u2 : Int32) (u3 : Int32) (u4 : Int32), c_X8_repeats_L3 F cs lf_3 u0 u1 u2 u3 u4 = some r9 → ∀ (H : Heap) (locs : List Loc) (ls : Array Slot), va_P (dC, dI) vwCl (cW cB cI cJ cZ cS cO b cs) H → va_D A (cW cB cI cJ cZ cS cO b cs) → va_S A s.heap H locs → lv_has ls 5 [(0, .ref (b + u0)), (1, .int u1), (2, .int u2), (3, .int u3), (4, .int u4)] → W p l e (headSpec (wsOf yX8_repeats cX8_repeats 5 (some .int)) ({ frames := 2, cells := 0, slots := 0, locals := 60 * (2) } : Room)).room s m ([.ref (b + x0), .int x1, .int x2, .int x3] : List Value).toArray below meth c H locs 0 0 (MQ below (va_Qi (fun (x : Int32) (_ : Unit) => x = r9) (fun _ t_ => va_P (dC, dI) vwCl (cW cB cI cJ cZ cS cO b cs) t_.heap ∧ va_D A (cW cB cI cJ cZ cS cO b cs)) A) ([.ref (b + x0), .int x1, .int x2, .int x3] : List Value).toArray s 0 0 A) (F0 m 3 ls []) := by
    intro lf_3
    induction lf_3 with
    | zero => intro u0 u1 u2 u3 u4 h; cases (show (none : Option Int32) = _ from h)
    | succ lf_3 ih_3 =>
      intro u0 u1 u2 u3 u4 h H locs ls hP hD hS hl
      rw [c_X8_repeats_L3] at h
      refine lv_iload_n hx hb dX8_repeats_3 rfl (lv_at hl 1 rfl) ?_
      refine lv_iload hx hb dX8_repeats_4 (lv_at hl 4 rfl) ?_
      refine lv_iadd hx hb dX8_repeats_6 ?_
      refine lv_iload_n hx hb dX8_repeats_7 rfl (lv_at hl 2 rfl) ?_
      refine lv_icmp_ge (tgt := 36) hx hb dX8_repeats_8 (by decide) (fun c_1 => ?_) (fun c_1 => ?_)
      · skip
        replace h := (if_pos c_1).symm.trans h
        exact B_36 u4 h _ _ _ hP hD hS (lv_sub hl [4] rfl)
      · skip
        replace h := (if_neg c_1).symm.trans h
        refine lv_aload_n hx hb dX8_repeats_11 rfl (lv_at hl 0 rfl) ?_
        refine lv_iload_n hx hb dX8_repeats_12 rfl (lv_at hl 1 rfl) ?_
        refine lv_iload_n hx hb dX8_repeats_13 rfl (lv_at hl 3 rfl) ?_
        refine lv_imul hx hb dX8_repeats_14 ?_
        refine lv_aload_n hx hb dX8_repeats_15 rfl (lv_at hl 0 rfl) ?_
        refine lv_iload_n hx hb dX8_repeats_16 rfl (lv_at hl 1 rfl) ?_
        refine lv_iload hx hb dX8_repeats_17 (lv_at hl 4 rfl) ?_
        refine lv_iadd hx hb dX8_repeats_19 ?_
        refine lv_iload_n hx hb dX8_repeats_20 rfl (lv_at hl 3 rfl) ?_
        refine lv_imul hx hb dX8_repeats_21 ?_
        refine lv_iload_n hx hb dX8_repeats_22 rfl (lv_at hl 3 rfl) ?_
        refine lv_iconst (v := 0) hx hb dX8_repeats_23 (by decide) ?_
        replace h := ob h; obtain ⟨w_3, hw_3, h⟩ := h
        replace h := ob h; obtain ⟨v_2, hv_2, h⟩ := h
        refine ccI (As := [.int (u1 * u3), .ref (b + u0), .int ((u1 + u4) * u3), .int u3, .int 0]) hx hb hml hts hown hK hP hD hS hA hZ (X := 9) (by decide) rfl (ckE_some hw_3) (sc_X8_compareRows l dC dI cB cI cJ cZ cS cO b K V fz F cs u0 (u1 * u3) u0 ((u1 + u4) * u3) u3 0 v_2 hv_2) (cw_X8_X8_compareRows hts (fr := 1) (Nat.le_of_ble_eq_true rfl) (Nat.le_of_ble_eq_true rfl)) rfl hl.1 (Nat.le_of_ble_eq_true rfl) ⟨Nat.zero_le _, Nat.zero_le _⟩ dX8_repeats_24 (fun H locs hP hD hS => ?_)
        refine lv_if_ne (tgt := 36) hx hb dX8_repeats_27 (by decide) (fun c_4 => ?_) (fun c_4 => ?_)
        · skip
          replace h := (if_neg c_4).symm.trans h
          exact B_36 u4 h _ _ _ hP hD hS (lv_sub hl [4] rfl)
        · skip
          replace h := (if_pos c_4).symm.trans h
          refine lv_iinc (v := u4 + 1) (lv' := [(4, .int (u4 + 1)), (0, .ref (b + u0)), (1, .int u1), (2, .int u2), (3, .int u3)]) hx hb dX8_repeats_30 hl (k := 4) rfl rfl (by decide) rfl (fun ls hl => ?_)
          refine lv_goto (tgt := 3) hx hb dX8_repeats_33 (by decide) ?_
          exact ih_3 u0 u1 u2 u3 (u4 + 1) h _ _ _ hP hD hS (lv_sub hl [1, 2, 3, 4, 0] rfl)
  have h := hf
  unfold c_X8_repeats at h
  refine lv_iconst (v := 1) hx hb dX8_repeats_0 (by decide) ?_
  refine lv_istore (lv' := [(4, .int 1), (0, .ref (b + x0)), (1, .int x1), (2, .int x2), (3, .int x3)]) hx hb dX8_repeats_1 hl (by decide) rfl (fun ls hl => ?_)
  exact L_3 F x0 x1 x2 x3 1 h _ _ _ hP hD hS (lv_sub hl [1, 2, 3, 4, 0] rfl)
