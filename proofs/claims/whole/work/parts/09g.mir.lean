/-! the reference, mirrored: nameOf, typeOf, columnsOf, isNamed, find, judge, isKept, isKeptQuery, isKeptSelect, areNamed, judgeQuery, judgeSelect -/
theorem dX12_nameOf_0 : decode cX12_nameOf 0 = .ok (.aload_n 0, 1) := by decide +kernel
theorem dX12_nameOf_1 : decode cX12_nameOf 1 = .ok (.getfield 127, 3) := by decide +kernel
theorem dX12_nameOf_4 : decode cX12_nameOf 4 = .ok (.iload_n 1, 1) := by decide +kernel
theorem dX12_nameOf_5 : decode cX12_nameOf 5 = .ok (.iaload, 1) := by decide +kernel
theorem dX12_nameOf_6 : decode cX12_nameOf 6 = .ok (.iconst (-1), 1) := by decide +kernel
theorem dX12_nameOf_7 : decode cX12_nameOf 7 = .ok (.if_icmp .eq 27, 3) := by decide +kernel
theorem dX12_nameOf_10 : decode cX12_nameOf 10 = .ok (.iload_n 2, 1) := by decide +kernel
theorem dX12_nameOf_11 : decode cX12_nameOf 11 = .ok (.aload_n 0, 1) := by decide +kernel
theorem dX12_nameOf_12 : decode cX12_nameOf 12 = .ok (.getfield 16, 3) := by decide +kernel
theorem dX12_nameOf_15 : decode cX12_nameOf 15 = .ok (.aload_n 0, 1) := by decide +kernel
theorem dX12_nameOf_16 : decode cX12_nameOf 16 = .ok (.getfield 127, 3) := by decide +kernel
theorem dX12_nameOf_19 : decode cX12_nameOf 19 = .ok (.iload_n 1, 1) := by decide +kernel
theorem dX12_nameOf_20 : decode cX12_nameOf 20 = .ok (.iaload, 1) := by decide +kernel
theorem dX12_nameOf_21 : decode cX12_nameOf 21 = .ok (.iaload, 1) := by decide +kernel
theorem dX12_nameOf_22 : decode cX12_nameOf 22 = .ok (.if_icmp .ne 8, 3) := by decide +kernel
theorem dX12_nameOf_25 : decode cX12_nameOf 25 = .ok (.bipush (-5), 2) := by decide +kernel
theorem dX12_nameOf_27 : decode cX12_nameOf 27 = .ok (.goto 6, 3) := by decide +kernel
theorem dX12_nameOf_30 : decode cX12_nameOf 30 = .ok (.iconst (-1), 1) := by decide +kernel
theorem dX12_nameOf_31 : decode cX12_nameOf 31 = .ok (.iload_n 2, 1) := by decide +kernel
theorem dX12_nameOf_32 : decode cX12_nameOf 32 = .ok (.isub, 1) := by decide +kernel
theorem dX12_nameOf_33 : decode cX12_nameOf 33 = .ok (.ireturn, 1) := by decide +kernel
theorem dX12_nameOf_34 : decode cX12_nameOf 34 = .ok (.aload_n 0, 1) := by decide +kernel
theorem dX12_nameOf_35 : decode cX12_nameOf 35 = .ok (.getfield 115, 3) := by decide +kernel
theorem dX12_nameOf_38 : decode cX12_nameOf 38 = .ok (.bipush 8, 2) := by decide +kernel
theorem dX12_nameOf_40 : decode cX12_nameOf 40 = .ok (.aload_n 0, 1) := by decide +kernel
theorem dX12_nameOf_41 : decode cX12_nameOf 41 = .ok (.getfield 160, 3) := by decide +kernel
theorem dX12_nameOf_44 : decode cX12_nameOf 44 = .ok (.iconst 5, 1) := by decide +kernel
theorem dX12_nameOf_45 : decode cX12_nameOf 45 = .ok (.aload_n 0, 1) := by decide +kernel
theorem dX12_nameOf_46 : decode cX12_nameOf 46 = .ok (.getfield 139, 3) := by decide +kernel
theorem dX12_nameOf_49 : decode cX12_nameOf 49 = .ok (.iload_n 1, 1) := by decide +kernel
theorem dX12_nameOf_50 : decode cX12_nameOf 50 = .ok (.iaload, 1) := by decide +kernel
theorem dX12_nameOf_51 : decode cX12_nameOf 51 = .ok (.imul, 1) := by decide +kernel
theorem dX12_nameOf_52 : decode cX12_nameOf 52 = .ok (.iaload, 1) := by decide +kernel
theorem dX12_nameOf_53 : decode cX12_nameOf 53 = .ok (.imul, 1) := by decide +kernel
theorem dX12_nameOf_54 : decode cX12_nameOf 54 = .ok (.iload_n 2, 1) := by decide +kernel
theorem dX12_nameOf_55 : decode cX12_nameOf 55 = .ok (.iadd, 1) := by decide +kernel
theorem dX12_nameOf_56 : decode cX12_nameOf 56 = .ok (.iaload, 1) := by decide +kernel
theorem dX12_nameOf_57 : decode cX12_nameOf 57 = .ok (.ireturn, 1) := by decide +kernel
def m_nameOf_b33 (F : Nat) (cs : RS) (y0 : Int32) : Option Int32 := some y0
def m_nameOf (F : Nat) (cs : RS) (x1 : Int32) (x2 : Int32) : Option Int32 := Option.bind (rdI (cs.2.2.1 49) 180 x1) fun v_1 => if v_1 = (-1) then (Option.bind (rdI (cs.2.2.1 53) 180 x1) fun v_3 => Option.bind (rdI (cs.2.2.1 61) 300 (5 * v_3)) fun v_4 => Option.bind (rdI (cs.2.2.1 45) 480 ((8 * v_4) + x2)) fun v_5 => some v_5) else (Option.bind (rdI (cs.2.2.1 49) 180 x1) fun v_6 => Option.bind (rdI (cs.2.2.1 5) 6 v_6) fun v_7 => if x2 = v_7 then (m_nameOf_b33 F cs (-5)) else (m_nameOf_b33 F cs ((-1) - x2)))
set_option maxHeartbeats 4000000 in
set_option maxRecDepth 100000 in
theorem s_nameOf (l : Launch) (dC : Nat → ClassId) (dI : Nat → Nat → Nat) (cB cI cJ cZ : ClassId) (h0 : Nat) (a : Nat → Nat) (K V : Nat → Nat) (fz : Value) (F : Nat) (cs : RS) (x1 : Int32) (x2 : Int32) (r9 : Int32) (hf : m_nameOf F cs x1 x2 = some r9) : okI l dC dI cB cI cJ cZ h0 a K V fz yX12_nameOf (wsOf yX12_nameOf cX12_nameOf 3 (some .int)) (0) [.ref h0, .int x1, .int x2] cs cs r9 := by
  intro sz
  refine Met.ofW (cc := cX12_nameOf) (maxL := 3) (ret := (some .int)) (by decide) rfl ?_
  intro p e s m args below meth c s₁ B hml hv
  obtain ⟨rfl, hsz, hP, hK, hD0, hZ⟩ := hv
  have hx := B.exec
  have hb := B.bytes
  have hr := B.returns
  have hts := atoms_spec (ws := (wsOf yX12_nameOf cX12_nameOf 3 (some .int))) B.pre
  have hown : s.vm.findClass RX12 = some m.cls := findClass_of_methodNamed B.named
  have hlocks := B.notSynchronized
  subst hsz
  have hD := hD0.self (sz := s.heap.size)
  generalize hAe : va_A (mW cB cI cJ cZ h0 a cs) s.heap.size = A at hD hZ ⊢
  have hA : ∀ q : Nat, s.heap.size ≤ q → A q := fun q h => by rw [← hAe]; exact Or.inr h
  have hS : va_S A s.heap s.heap [] := va_S.rf
  have hl := lv_entry ([.ref h0, .int x1, .int x2]) (n := 3) (Nat.le_of_ble_eq_true rfl)
  rw [lg_entry_eq]
  generalize (lg_sl ([.ref h0, .int x1, .int x2]) ++ List.replicate (3 - (lg_sl ([.ref h0, .int x1, .int x2])).length) Slot.unset).toArray = ls at hl ⊢
  have hl : lv_has ls 3 [(0, .ref h0), (1, .int x1), (2, .int x2)] := hl
  have B_33 : ∀ (y0 : Int32), m_nameOf_b33 F cs y0 = some r9 → ∀ (H : Heap) (locs : List Loc) (ls : Array Slot), va_P (dC, dI) vwCl (mW cB cI cJ cZ h0 a cs) H → va_D A (mW cB cI cJ cZ h0 a cs) → va_S A s.heap H locs → lv_has ls 3 [] → W p l e (headSpec (wsOf yX12_nameOf cX12_nameOf 3 (some .int)) ({ frames := 0, cells := 0, slots := 0, locals := 60 * (0) } : Room)).room s m ([.ref h0, .int x1, .int x2] : List Value).toArray below meth c H locs 0 0 (MQ below (va_Qi (fun (x : Int32) (_ : Unit) => x = r9) (fun _ t_ => va_P (dC, dI) vwCl (mW cB cI cJ cZ h0 a cs) t_.heap ∧ va_D A (mW cB cI cJ cZ h0 a cs)) A) ([.ref h0, .int x1, .int x2] : List Value).toArray s 0 0 A) (F0 m 33 ls [.int y0]) := by
    intro y0 h H locs ls hP hD hS hl
    unfold m_nameOf_b33 at h
    have e2 := Option.some.inj h
    exact W.iret (v := y0) hx hb hr (fun t_ ht hW => ⟨⟨y0, (), rfl, e2, by rw [ht]; exact hP, hD⟩, hS.F ht⟩) hS.2.2 dX12_nameOf_33
  have h := hf
  unfold m_nameOf at h
  refine lv_aload_n hx hb dX12_nameOf_0 rfl (lv_at hl 0 rfl) ?_
  refine fg_49 hx hb hts hown hK hP dX12_nameOf_1 ?_
  refine lv_iload_n hx hb dX12_nameOf_4 rfl (lv_at hl 1 rfl) ?_
  obtain ⟨v_1, hv_1, h⟩ := ob h
  refine ag_49 hx hb hK hP hv_1 dX12_nameOf_5 ?_
  refine lv_iconst (v := (-1)) hx hb dX12_nameOf_6 (by decide) ?_
  refine lv_icmp_eq (tgt := 34) hx hb dX12_nameOf_7 (by decide) (fun c_2 => ?_) (fun c_2 => ?_)
  · skip
    replace h := (if_pos c_2).symm.trans h
    refine lv_aload_n hx hb dX12_nameOf_34 rfl (lv_at hl 0 rfl) ?_
    refine fg_45 hx hb hts hown hK hP dX12_nameOf_35 ?_
    refine lv_bipush (v := 8) hx hb dX12_nameOf_38 (by decide) ?_
    refine lv_aload_n hx hb dX12_nameOf_40 rfl (lv_at hl 0 rfl) ?_
    refine fg_61 hx hb hts hown hK hP dX12_nameOf_41 ?_
    refine lv_iconst (v := 5) hx hb dX12_nameOf_44 (by decide) ?_
    refine lv_aload_n hx hb dX12_nameOf_45 rfl (lv_at hl 0 rfl) ?_
    refine fg_53 hx hb hts hown hK hP dX12_nameOf_46 ?_
    refine lv_iload_n hx hb dX12_nameOf_49 rfl (lv_at hl 1 rfl) ?_
    obtain ⟨v_3, hv_3, h⟩ := ob h
    refine ag_53 hx hb hK hP hv_3 dX12_nameOf_50 ?_
    refine lv_imul hx hb dX12_nameOf_51 ?_
    obtain ⟨v_4, hv_4, h⟩ := ob h
    refine ag_61 hx hb hK hP hv_4 dX12_nameOf_52 ?_
    refine lv_imul hx hb dX12_nameOf_53 ?_
    refine lv_iload_n hx hb dX12_nameOf_54 rfl (lv_at hl 2 rfl) ?_
    refine lv_iadd hx hb dX12_nameOf_55 ?_
    obtain ⟨v_5, hv_5, h⟩ := ob h
    refine ag_45 hx hb hK hP hv_5 dX12_nameOf_56 ?_
    have e2 := Option.some.inj h
    exact W.iret (v := v_5) hx hb hr (fun t_ ht hW => ⟨⟨v_5, (), rfl, e2, by rw [ht]; exact hP, hD⟩, hS.F ht⟩) hS.2.2 dX12_nameOf_57
  · skip
    replace h := (if_neg c_2).symm.trans h
    refine lv_iload_n hx hb dX12_nameOf_10 rfl (lv_at hl 2 rfl) ?_
    refine lv_aload_n hx hb dX12_nameOf_11 rfl (lv_at hl 0 rfl) ?_
    refine fg_5 hx hb hts hown hK hP dX12_nameOf_12 ?_
    refine lv_aload_n hx hb dX12_nameOf_15 rfl (lv_at hl 0 rfl) ?_
    refine fg_49 hx hb hts hown hK hP dX12_nameOf_16 ?_
    refine lv_iload_n hx hb dX12_nameOf_19 rfl (lv_at hl 1 rfl) ?_
    obtain ⟨v_6, hv_6, h⟩ := ob h
    refine ag_49 hx hb hK hP hv_6 dX12_nameOf_20 ?_
    obtain ⟨v_7, hv_7, h⟩ := ob h
    refine ag_5 hx hb hK hP hv_7 dX12_nameOf_21 ?_
    refine lv_icmp_ne (tgt := 30) hx hb dX12_nameOf_22 (by decide) (fun c_8 => ?_) (fun c_8 => ?_)
    · skip
      replace h := (if_neg c_8).symm.trans h
      refine lv_iconst (v := (-1)) hx hb dX12_nameOf_30 (by decide) ?_
      refine lv_iload_n hx hb dX12_nameOf_31 rfl (lv_at hl 2 rfl) ?_
      refine lv_isub hx hb dX12_nameOf_32 ?_
      exact B_33 ((-1) - x2) h _ _ _ hP hD hS (lv_sub hl [] rfl)
    · skip
      replace h := (if_pos c_8).symm.trans h
      refine lv_bipush (v := (-5)) hx hb dX12_nameOf_25 (by decide) ?_
      refine lv_goto (tgt := 33) hx hb dX12_nameOf_27 (by decide) ?_
      exact B_33 (-5) h _ _ _ hP hD hS (lv_sub hl [] rfl)
theorem cw_nameOf {R : Room} {s : State} {args : Array Value} {y0 : MethodName} {c0 : ByteArray} {n0 : Nat} {r0 : Option FieldType} (hts : ∀ w ∈ wsOf y0 c0 n0 r0, w.before args s = true) {fr : Nat} (h1 : fr + 1 ≤ R.frames) (h2 : 8 + (3 + 11) + 60 * fr ≤ R.locals) : CallW R s args RX12 RX12 524 yX12_nameOf cX12_nameOf 3 (some .int) (wsOf yX12_nameOf cX12_nameOf 3 (some .int)) ({ frames := fr, cells := 0, slots := 0, locals := 60 * fr } : Room) 0 0 2 := cwV 2 hts (gd_all (in_V kw_2443 kw_2445 kw_174 kw_191 kc_X12_nameOf)) rfl rfl rfl (by decide +kernel) ⟨h1, h2⟩
theorem dX12_typeOf_0 : decode cX12_typeOf 0 = .ok (.aload_n 0, 1) := by decide +kernel
theorem dX12_typeOf_1 : decode cX12_typeOf 1 = .ok (.getfield 127, 3) := by decide +kernel
theorem dX12_typeOf_4 : decode cX12_typeOf 4 = .ok (.iload_n 1, 1) := by decide +kernel
theorem dX12_typeOf_5 : decode cX12_typeOf 5 = .ok (.iaload, 1) := by decide +kernel
theorem dX12_typeOf_6 : decode cX12_typeOf 6 = .ok (.iconst (-1), 1) := by decide +kernel
theorem dX12_typeOf_7 : decode cX12_typeOf 7 = .ok (.if_icmp .eq 7, 3) := by decide +kernel
theorem dX12_typeOf_10 : decode cX12_typeOf 10 = .ok (.iconst 1, 1) := by decide +kernel
theorem dX12_typeOf_11 : decode cX12_typeOf 11 = .ok (.goto 26, 3) := by decide +kernel
theorem dX12_typeOf_14 : decode cX12_typeOf 14 = .ok (.aload_n 0, 1) := by decide +kernel
theorem dX12_typeOf_15 : decode cX12_typeOf 15 = .ok (.getfield 118, 3) := by decide +kernel
theorem dX12_typeOf_18 : decode cX12_typeOf 18 = .ok (.bipush 8, 2) := by decide +kernel
theorem dX12_typeOf_20 : decode cX12_typeOf 20 = .ok (.aload_n 0, 1) := by decide +kernel
theorem dX12_typeOf_21 : decode cX12_typeOf 21 = .ok (.getfield 160, 3) := by decide +kernel
theorem dX12_typeOf_24 : decode cX12_typeOf 24 = .ok (.iconst 5, 1) := by decide +kernel
theorem dX12_typeOf_25 : decode cX12_typeOf 25 = .ok (.aload_n 0, 1) := by decide +kernel
theorem dX12_typeOf_26 : decode cX12_typeOf 26 = .ok (.getfield 139, 3) := by decide +kernel
theorem dX12_typeOf_29 : decode cX12_typeOf 29 = .ok (.iload_n 1, 1) := by decide +kernel
theorem dX12_typeOf_30 : decode cX12_typeOf 30 = .ok (.iaload, 1) := by decide +kernel
theorem dX12_typeOf_31 : decode cX12_typeOf 31 = .ok (.imul, 1) := by decide +kernel
theorem dX12_typeOf_32 : decode cX12_typeOf 32 = .ok (.iaload, 1) := by decide +kernel
theorem dX12_typeOf_33 : decode cX12_typeOf 33 = .ok (.imul, 1) := by decide +kernel
theorem dX12_typeOf_34 : decode cX12_typeOf 34 = .ok (.iload_n 2, 1) := by decide +kernel
theorem dX12_typeOf_35 : decode cX12_typeOf 35 = .ok (.iadd, 1) := by decide +kernel
theorem dX12_typeOf_36 : decode cX12_typeOf 36 = .ok (.iaload, 1) := by decide +kernel
theorem dX12_typeOf_37 : decode cX12_typeOf 37 = .ok (.ireturn, 1) := by decide +kernel
def m_typeOf_b37 (F : Nat) (cs : RS) (y0 : Int32) : Option Int32 := some y0
def m_typeOf (F : Nat) (cs : RS) (x1 : Int32) (x2 : Int32) : Option Int32 := Option.bind (rdI (cs.2.2.1 49) 180 x1) fun v_1 => if v_1 = (-1) then (Option.bind (rdI (cs.2.2.1 53) 180 x1) fun v_3 => Option.bind (rdI (cs.2.2.1 61) 300 (5 * v_3)) fun v_4 => Option.bind (rdI (cs.2.2.1 46) 480 ((8 * v_4) + x2)) fun v_5 => m_typeOf_b37 F cs v_5) else (m_typeOf_b37 F cs 1)
set_option maxHeartbeats 4000000 in
set_option maxRecDepth 100000 in
theorem s_typeOf (l : Launch) (dC : Nat → ClassId) (dI : Nat → Nat → Nat) (cB cI cJ cZ : ClassId) (h0 : Nat) (a : Nat → Nat) (K V : Nat → Nat) (fz : Value) (F : Nat) (cs : RS) (x1 : Int32) (x2 : Int32) (r9 : Int32) (hf : m_typeOf F cs x1 x2 = some r9) : okI l dC dI cB cI cJ cZ h0 a K V fz yX12_typeOf (wsOf yX12_typeOf cX12_typeOf 3 (some .int)) (0) [.ref h0, .int x1, .int x2] cs cs r9 := by
  intro sz
  refine Met.ofW (cc := cX12_typeOf) (maxL := 3) (ret := (some .int)) (by decide) rfl ?_
  intro p e s m args below meth c s₁ B hml hv
  obtain ⟨rfl, hsz, hP, hK, hD0, hZ⟩ := hv
  have hx := B.exec
  have hb := B.bytes
  have hr := B.returns
  have hts := atoms_spec (ws := (wsOf yX12_typeOf cX12_typeOf 3 (some .int))) B.pre
  have hown : s.vm.findClass RX12 = some m.cls := findClass_of_methodNamed B.named
  have hlocks := B.notSynchronized
  subst hsz
  have hD := hD0.self (sz := s.heap.size)
  generalize hAe : va_A (mW cB cI cJ cZ h0 a cs) s.heap.size = A at hD hZ ⊢
  have hA : ∀ q : Nat, s.heap.size ≤ q → A q := fun q h => by rw [← hAe]; exact Or.inr h
  have hS : va_S A s.heap s.heap [] := va_S.rf
  have hl := lv_entry ([.ref h0, .int x1, .int x2]) (n := 3) (Nat.le_of_ble_eq_true rfl)
  rw [lg_entry_eq]
  generalize (lg_sl ([.ref h0, .int x1, .int x2]) ++ List.replicate (3 - (lg_sl ([.ref h0, .int x1, .int x2])).length) Slot.unset).toArray = ls at hl ⊢
  have hl : lv_has ls 3 [(0, .ref h0), (1, .int x1), (2, .int x2)] := hl
  have B_37 : ∀ (y0 : Int32), m_typeOf_b37 F cs y0 = some r9 → ∀ (H : Heap) (locs : List Loc) (ls : Array Slot), va_P (dC, dI) vwCl (mW cB cI cJ cZ h0 a cs) H → va_D A (mW cB cI cJ cZ h0 a cs) → va_S A s.heap H locs → lv_has ls 3 [] → W p l e (headSpec (wsOf yX12_typeOf cX12_typeOf 3 (some .int)) ({ frames := 0, cells := 0, slots := 0, locals := 60 * (0) } : Room)).room s m ([.ref h0, .int x1, .int x2] : List Value).toArray below meth c H locs 0 0 (MQ below (va_Qi (fun (x : Int32) (_ : Unit) => x = r9) (fun _ t_ => va_P (dC, dI) vwCl (mW cB cI cJ cZ h0 a cs) t_.heap ∧ va_D A (mW cB cI cJ cZ h0 a cs)) A) ([.ref h0, .int x1, .int x2] : List Value).toArray s 0 0 A) (F0 m 37 ls [.int y0]) := by
    intro y0 h H locs ls hP hD hS hl
    unfold m_typeOf_b37 at h
    have e2 := Option.some.inj h
    exact W.iret (v := y0) hx hb hr (fun t_ ht hW => ⟨⟨y0, (), rfl, e2, by rw [ht]; exact hP, hD⟩, hS.F ht⟩) hS.2.2 dX12_typeOf_37
  have h := hf
  unfold m_typeOf at h
  refine lv_aload_n hx hb dX12_typeOf_0 rfl (lv_at hl 0 rfl) ?_
  refine fg_49 hx hb hts hown hK hP dX12_typeOf_1 ?_
  refine lv_iload_n hx hb dX12_typeOf_4 rfl (lv_at hl 1 rfl) ?_
  obtain ⟨v_1, hv_1, h⟩ := ob h
  refine ag_49 hx hb hK hP hv_1 dX12_typeOf_5 ?_
  refine lv_iconst (v := (-1)) hx hb dX12_typeOf_6 (by decide) ?_
  refine lv_icmp_eq (tgt := 14) hx hb dX12_typeOf_7 (by decide) (fun c_2 => ?_) (fun c_2 => ?_)
  · skip
    replace h := (if_pos c_2).symm.trans h
    refine lv_aload_n hx hb dX12_typeOf_14 rfl (lv_at hl 0 rfl) ?_
    refine fg_46 hx hb hts hown hK hP dX12_typeOf_15 ?_
    refine lv_bipush (v := 8) hx hb dX12_typeOf_18 (by decide) ?_
    refine lv_aload_n hx hb dX12_typeOf_20 rfl (lv_at hl 0 rfl) ?_
    refine fg_61 hx hb hts hown hK hP dX12_typeOf_21 ?_
    refine lv_iconst (v := 5) hx hb dX12_typeOf_24 (by decide) ?_
    refine lv_aload_n hx hb dX12_typeOf_25 rfl (lv_at hl 0 rfl) ?_
    refine fg_53 hx hb hts hown hK hP dX12_typeOf_26 ?_
    refine lv_iload_n hx hb dX12_typeOf_29 rfl (lv_at hl 1 rfl) ?_
    obtain ⟨v_3, hv_3, h⟩ := ob h
    refine ag_53 hx hb hK hP hv_3 dX12_typeOf_30 ?_
    refine lv_imul hx hb dX12_typeOf_31 ?_
    obtain ⟨v_4, hv_4, h⟩ := ob h
    refine ag_61 hx hb hK hP hv_4 dX12_typeOf_32 ?_
    refine lv_imul hx hb dX12_typeOf_33 ?_
    refine lv_iload_n hx hb dX12_typeOf_34 rfl (lv_at hl 2 rfl) ?_
    refine lv_iadd hx hb dX12_typeOf_35 ?_
    obtain ⟨v_5, hv_5, h⟩ := ob h
    refine ag_46 hx hb hK hP hv_5 dX12_typeOf_36 ?_
    exact B_37 v_5 h _ _ _ hP hD hS (lv_sub hl [] rfl)
  · skip
    replace h := (if_neg c_2).symm.trans h
    refine lv_iconst (v := 1) hx hb dX12_typeOf_10 (by decide) ?_
    refine lv_goto (tgt := 37) hx hb dX12_typeOf_11 (by decide) ?_
    exact B_37 1 h _ _ _ hP hD hS (lv_sub hl [] rfl)
theorem cw_typeOf {R : Room} {s : State} {args : Array Value} {y0 : MethodName} {c0 : ByteArray} {n0 : Nat} {r0 : Option FieldType} (hts : ∀ w ∈ wsOf y0 c0 n0 r0, w.before args s = true) {fr : Nat} (h1 : fr + 1 ≤ R.frames) (h2 : 8 + (3 + 11) + 60 * fr ≤ R.locals) : CallW R s args RX12 RX12 531 yX12_typeOf cX12_typeOf 3 (some .int) (wsOf yX12_typeOf cX12_typeOf 3 (some .int)) ({ frames := fr, cells := 0, slots := 0, locals := 60 * fr } : Room) 0 0 2 := cwV 2 hts (gd_all (in_V kw_2451 kw_2453 kw_176 kw_191 kc_X12_typeOf)) rfl rfl rfl (by decide +kernel) ⟨h1, h2⟩
theorem dX12_columnsOf_0 : decode cX12_columnsOf 0 = .ok (.aload_n 0, 1) := by decide +kernel
theorem dX12_columnsOf_1 : decode cX12_columnsOf 1 = .ok (.getfield 127, 3) := by decide +kernel
theorem dX12_columnsOf_4 : decode cX12_columnsOf 4 = .ok (.iload_n 1, 1) := by decide +kernel
theorem dX12_columnsOf_5 : decode cX12_columnsOf 5 = .ok (.iaload, 1) := by decide +kernel
theorem dX12_columnsOf_6 : decode cX12_columnsOf 6 = .ok (.iconst (-1), 1) := by decide +kernel
theorem dX12_columnsOf_7 : decode cX12_columnsOf 7 = .ok (.if_icmp .eq 19, 3) := by decide +kernel
theorem dX12_columnsOf_10 : decode cX12_columnsOf 10 = .ok (.aload_n 0, 1) := by decide +kernel
theorem dX12_columnsOf_11 : decode cX12_columnsOf 11 = .ok (.getfield 16, 3) := by decide +kernel
theorem dX12_columnsOf_14 : decode cX12_columnsOf 14 = .ok (.aload_n 0, 1) := by decide +kernel
theorem dX12_columnsOf_15 : decode cX12_columnsOf 15 = .ok (.getfield 127, 3) := by decide +kernel
theorem dX12_columnsOf_18 : decode cX12_columnsOf 18 = .ok (.iload_n 1, 1) := by decide +kernel
theorem dX12_columnsOf_19 : decode cX12_columnsOf 19 = .ok (.iaload, 1) := by decide +kernel
theorem dX12_columnsOf_20 : decode cX12_columnsOf 20 = .ok (.iaload, 1) := by decide +kernel
theorem dX12_columnsOf_21 : decode cX12_columnsOf 21 = .ok (.iconst 1, 1) := by decide +kernel
theorem dX12_columnsOf_22 : decode cX12_columnsOf 22 = .ok (.iadd, 1) := by decide +kernel
theorem dX12_columnsOf_23 : decode cX12_columnsOf 23 = .ok (.goto 21, 3) := by decide +kernel
theorem dX12_columnsOf_26 : decode cX12_columnsOf 26 = .ok (.aload_n 0, 1) := by decide +kernel
theorem dX12_columnsOf_27 : decode cX12_columnsOf 27 = .ok (.getfield 88, 3) := by decide +kernel
theorem dX12_columnsOf_30 : decode cX12_columnsOf 30 = .ok (.aload_n 0, 1) := by decide +kernel
theorem dX12_columnsOf_31 : decode cX12_columnsOf 31 = .ok (.getfield 160, 3) := by decide +kernel
theorem dX12_columnsOf_34 : decode cX12_columnsOf 34 = .ok (.iconst 5, 1) := by decide +kernel
theorem dX12_columnsOf_35 : decode cX12_columnsOf 35 = .ok (.aload_n 0, 1) := by decide +kernel
theorem dX12_columnsOf_36 : decode cX12_columnsOf 36 = .ok (.getfield 139, 3) := by decide +kernel
theorem dX12_columnsOf_39 : decode cX12_columnsOf 39 = .ok (.iload_n 1, 1) := by decide +kernel
theorem dX12_columnsOf_40 : decode cX12_columnsOf 40 = .ok (.iaload, 1) := by decide +kernel
theorem dX12_columnsOf_41 : decode cX12_columnsOf 41 = .ok (.imul, 1) := by decide +kernel
theorem dX12_columnsOf_42 : decode cX12_columnsOf 42 = .ok (.iaload, 1) := by decide +kernel
theorem dX12_columnsOf_43 : decode cX12_columnsOf 43 = .ok (.iaload, 1) := by decide +kernel
theorem dX12_columnsOf_44 : decode cX12_columnsOf 44 = .ok (.ireturn, 1) := by decide +kernel
def m_columnsOf_b44 (F : Nat) (cs : RS) (y0 : Int32) : Option Int32 := some y0
def m_columnsOf (F : Nat) (cs : RS) (x1 : Int32) : Option Int32 := Option.bind (rdI (cs.2.2.1 49) 180 x1) fun v_1 => if v_1 = (-1) then (Option.bind (rdI (cs.2.2.1 53) 180 x1) fun v_3 => Option.bind (rdI (cs.2.2.1 61) 300 (5 * v_3)) fun v_4 => Option.bind (rdI (cs.2.2.1 36) 60 v_4) fun v_5 => m_columnsOf_b44 F cs v_5) else (Option.bind (rdI (cs.2.2.1 49) 180 x1) fun v_6 => Option.bind (rdI (cs.2.2.1 5) 6 v_6) fun v_7 => m_columnsOf_b44 F cs (v_7 + 1))
set_option maxHeartbeats 4000000 in
set_option maxRecDepth 100000 in
theorem s_columnsOf (l : Launch) (dC : Nat → ClassId) (dI : Nat → Nat → Nat) (cB cI cJ cZ : ClassId) (h0 : Nat) (a : Nat → Nat) (K V : Nat → Nat) (fz : Value) (F : Nat) (cs : RS) (x1 : Int32) (r9 : Int32) (hf : m_columnsOf F cs x1 = some r9) : okI l dC dI cB cI cJ cZ h0 a K V fz yX12_columnsOf (wsOf yX12_columnsOf cX12_columnsOf 2 (some .int)) (0) [.ref h0, .int x1] cs cs r9 := by
  intro sz
  refine Met.ofW (cc := cX12_columnsOf) (maxL := 2) (ret := (some .int)) (by decide) rfl ?_
  intro p e s m args below meth c s₁ B hml hv
  obtain ⟨rfl, hsz, hP, hK, hD0, hZ⟩ := hv
  have hx := B.exec
  have hb := B.bytes
  have hr := B.returns
  have hts := atoms_spec (ws := (wsOf yX12_columnsOf cX12_columnsOf 2 (some .int))) B.pre
  have hown : s.vm.findClass RX12 = some m.cls := findClass_of_methodNamed B.named
  have hlocks := B.notSynchronized
  subst hsz
  have hD := hD0.self (sz := s.heap.size)
  generalize hAe : va_A (mW cB cI cJ cZ h0 a cs) s.heap.size = A at hD hZ ⊢
  have hA : ∀ q : Nat, s.heap.size ≤ q → A q := fun q h => by rw [← hAe]; exact Or.inr h
  have hS : va_S A s.heap s.heap [] := va_S.rf
  have hl := lv_entry ([.ref h0, .int x1]) (n := 2) (Nat.le_of_ble_eq_true rfl)
  rw [lg_entry_eq]
  generalize (lg_sl ([.ref h0, .int x1]) ++ List.replicate (2 - (lg_sl ([.ref h0, .int x1])).length) Slot.unset).toArray = ls at hl ⊢
  have hl : lv_has ls 2 [(0, .ref h0), (1, .int x1)] := hl
  have B_44 : ∀ (y0 : Int32), m_columnsOf_b44 F cs y0 = some r9 → ∀ (H : Heap) (locs : List Loc) (ls : Array Slot), va_P (dC, dI) vwCl (mW cB cI cJ cZ h0 a cs) H → va_D A (mW cB cI cJ cZ h0 a cs) → va_S A s.heap H locs → lv_has ls 2 [] → W p l e (headSpec (wsOf yX12_columnsOf cX12_columnsOf 2 (some .int)) ({ frames := 0, cells := 0, slots := 0, locals := 60 * (0) } : Room)).room s m ([.ref h0, .int x1] : List Value).toArray below meth c H locs 0 0 (MQ below (va_Qi (fun (x : Int32) (_ : Unit) => x = r9) (fun _ t_ => va_P (dC, dI) vwCl (mW cB cI cJ cZ h0 a cs) t_.heap ∧ va_D A (mW cB cI cJ cZ h0 a cs)) A) ([.ref h0, .int x1] : List Value).toArray s 0 0 A) (F0 m 44 ls [.int y0]) := by
    intro y0 h H locs ls hP hD hS hl
    unfold m_columnsOf_b44 at h
    have e2 := Option.some.inj h
    exact W.iret (v := y0) hx hb hr (fun t_ ht hW => ⟨⟨y0, (), rfl, e2, by rw [ht]; exact hP, hD⟩, hS.F ht⟩) hS.2.2 dX12_columnsOf_44
  have h := hf
  unfold m_columnsOf at h
  refine lv_aload_n hx hb dX12_columnsOf_0 rfl (lv_at hl 0 rfl) ?_
  refine fg_49 hx hb hts hown hK hP dX12_columnsOf_1 ?_
  refine lv_iload_n hx hb dX12_columnsOf_4 rfl (lv_at hl 1 rfl) ?_
  obtain ⟨v_1, hv_1, h⟩ := ob h
  refine ag_49 hx hb hK hP hv_1 dX12_columnsOf_5 ?_
  refine lv_iconst (v := (-1)) hx hb dX12_columnsOf_6 (by decide) ?_
  refine lv_icmp_eq (tgt := 26) hx hb dX12_columnsOf_7 (by decide) (fun c_2 => ?_) (fun c_2 => ?_)
  · skip
    replace h := (if_pos c_2).symm.trans h
    refine lv_aload_n hx hb dX12_columnsOf_26 rfl (lv_at hl 0 rfl) ?_
    refine fg_36 hx hb hts hown hK hP dX12_columnsOf_27 ?_
    refine lv_aload_n hx hb dX12_columnsOf_30 rfl (lv_at hl 0 rfl) ?_
    refine fg_61 hx hb hts hown hK hP dX12_columnsOf_31 ?_
    refine lv_iconst (v := 5) hx hb dX12_columnsOf_34 (by decide) ?_
    refine lv_aload_n hx hb dX12_columnsOf_35 rfl (lv_at hl 0 rfl) ?_
    refine fg_53 hx hb hts hown hK hP dX12_columnsOf_36 ?_
    refine lv_iload_n hx hb dX12_columnsOf_39 rfl (lv_at hl 1 rfl) ?_
    obtain ⟨v_3, hv_3, h⟩ := ob h
    refine ag_53 hx hb hK hP hv_3 dX12_columnsOf_40 ?_
    refine lv_imul hx hb dX12_columnsOf_41 ?_
    obtain ⟨v_4, hv_4, h⟩ := ob h
    refine ag_61 hx hb hK hP hv_4 dX12_columnsOf_42 ?_
    obtain ⟨v_5, hv_5, h⟩ := ob h
    refine ag_36 hx hb hK hP hv_5 dX12_columnsOf_43 ?_
    exact B_44 v_5 h _ _ _ hP hD hS (lv_sub hl [] rfl)
  · skip
    replace h := (if_neg c_2).symm.trans h
    refine lv_aload_n hx hb dX12_columnsOf_10 rfl (lv_at hl 0 rfl) ?_
    refine fg_5 hx hb hts hown hK hP dX12_columnsOf_11 ?_
    refine lv_aload_n hx hb dX12_columnsOf_14 rfl (lv_at hl 0 rfl) ?_
    refine fg_49 hx hb hts hown hK hP dX12_columnsOf_15 ?_
    refine lv_iload_n hx hb dX12_columnsOf_18 rfl (lv_at hl 1 rfl) ?_
    obtain ⟨v_6, hv_6, h⟩ := ob h
    refine ag_49 hx hb hK hP hv_6 dX12_columnsOf_19 ?_
    obtain ⟨v_7, hv_7, h⟩ := ob h
    refine ag_5 hx hb hK hP hv_7 dX12_columnsOf_20 ?_
    refine lv_iconst (v := 1) hx hb dX12_columnsOf_21 (by decide) ?_
    refine lv_iadd hx hb dX12_columnsOf_22 ?_
    refine lv_goto (tgt := 44) hx hb dX12_columnsOf_23 (by decide) ?_
    exact B_44 (v_7 + 1) h _ _ _ hP hD hS (lv_sub hl [] rfl)
theorem cw_columnsOf {R : Room} {s : State} {args : Array Value} {y0 : MethodName} {c0 : ByteArray} {n0 : Nat} {r0 : Option FieldType} (hts : ∀ w ∈ wsOf y0 c0 n0 r0, w.before args s = true) {fr : Nat} (h1 : fr + 1 ≤ R.frames) (h2 : 8 + (2 + 11) + 60 * fr ≤ R.locals) : CallW R s args RX12 RX12 521 yX12_columnsOf cX12_columnsOf 2 (some .int) (wsOf yX12_columnsOf cX12_columnsOf 2 (some .int)) ({ frames := fr, cells := 0, slots := 0, locals := 60 * fr } : Room) 0 0 1 := cwV 1 hts (gd_all (in_V kw_2411 kw_2413 kw_166 kw_191 kc_X12_columnsOf)) rfl rfl rfl (by decide +kernel) ⟨h1, h2⟩
theorem dX12_isNamed_0 : decode cX12_isNamed 0 = .ok (.iload_n 2, 1) := by decide +kernel
theorem dX12_isNamed_1 : decode cX12_isNamed 1 = .ok (.ifCond .lt 10, 3) := by decide +kernel
theorem dX12_isNamed_4 : decode cX12_isNamed 4 = .ok (.aload_n 0, 1) := by decide +kernel
theorem dX12_isNamed_5 : decode cX12_isNamed 5 = .ok (.iload_n 1, 1) := by decide +kernel
theorem dX12_isNamed_6 : decode cX12_isNamed 6 = .ok (.iload_n 2, 1) := by decide +kernel
theorem dX12_isNamed_7 : decode cX12_isNamed 7 = .ok (.invokevirtual 508, 3) := by decide +kernel
theorem dX12_isNamed_10 : decode cX12_isNamed 10 = .ok (.ireturn, 1) := by decide +kernel
theorem dX12_isNamed_11 : decode cX12_isNamed 11 = .ok (.iload_n 2, 1) := by decide +kernel
theorem dX12_isNamed_12 : decode cX12_isNamed 12 = .ok (.bipush (-5), 2) := by decide +kernel
theorem dX12_isNamed_14 : decode cX12_isNamed 14 = .ok (.if_icmp .ne 14, 3) := by decide +kernel
theorem dX12_isNamed_17 : decode cX12_isNamed 17 = .ok (.aload_n 0, 1) := by decide +kernel
theorem dX12_isNamed_18 : decode cX12_isNamed 18 = .ok (.iload_n 1, 1) := by decide +kernel
theorem dX12_isNamed_19 : decode cX12_isNamed 19 = .ok (.ldc_w 374, 3) := by decide +kernel
theorem dX12_isNamed_22 : decode cX12_isNamed 22 = .ok (.invokevirtual 318, 3) := by decide +kernel
theorem dX12_isNamed_25 : decode cX12_isNamed 25 = .ok (.goto 36, 3) := by decide +kernel
theorem dX12_isNamed_28 : decode cX12_isNamed 28 = .ok (.aload_n 0, 1) := by decide +kernel
theorem dX12_isNamed_29 : decode cX12_isNamed 29 = .ok (.getfield 46, 3) := by decide +kernel
theorem dX12_isNamed_32 : decode cX12_isNamed 32 = .ok (.iload_n 1, 1) := by decide +kernel
theorem dX12_isNamed_33 : decode cX12_isNamed 33 = .ok (.iaload, 1) := by decide +kernel
theorem dX12_isNamed_34 : decode cX12_isNamed 34 = .ok (.iconst 1, 1) := by decide +kernel
theorem dX12_isNamed_35 : decode cX12_isNamed 35 = .ok (.if_icmp .ne 25, 3) := by decide +kernel
theorem dX12_isNamed_38 : decode cX12_isNamed 38 = .ok (.aload_n 0, 1) := by decide +kernel
theorem dX12_isNamed_39 : decode cX12_isNamed 39 = .ok (.getfield 13, 3) := by decide +kernel
theorem dX12_isNamed_42 : decode cX12_isNamed 42 = .ok (.aload_n 0, 1) := by decide +kernel
theorem dX12_isNamed_43 : decode cX12_isNamed 43 = .ok (.getfield 43, 3) := by decide +kernel
theorem dX12_isNamed_46 : decode cX12_isNamed 46 = .ok (.iload_n 1, 1) := by decide +kernel
theorem dX12_isNamed_47 : decode cX12_isNamed 47 = .ok (.iaload, 1) := by decide +kernel
theorem dX12_isNamed_48 : decode cX12_isNamed 48 = .ok (.baload, 1) := by decide +kernel
theorem dX12_isNamed_49 : decode cX12_isNamed 49 = .ok (.bipush 96, 2) := by decide +kernel
theorem dX12_isNamed_51 : decode cX12_isNamed 51 = .ok (.iload_n 2, 1) := by decide +kernel
theorem dX12_isNamed_52 : decode cX12_isNamed 52 = .ok (.isub, 1) := by decide +kernel
theorem dX12_isNamed_53 : decode cX12_isNamed 53 = .ok (.if_icmp .ne 7, 3) := by decide +kernel
theorem dX12_isNamed_56 : decode cX12_isNamed 56 = .ok (.iconst 1, 1) := by decide +kernel
theorem dX12_isNamed_57 : decode cX12_isNamed 57 = .ok (.goto 4, 3) := by decide +kernel
theorem dX12_isNamed_60 : decode cX12_isNamed 60 = .ok (.iconst 0, 1) := by decide +kernel
theorem dX12_isNamed_61 : decode cX12_isNamed 61 = .ok (.ireturn, 1) := by decide +kernel
def m_isNamed_b61 (F : Nat) (cs : RS) (y0 : Int32) : Option Int32 := Option.bind (ckZ y0) fun _ => some y0
def m_isNamed_b60 (F : Nat) (cs : RS) : Option Int32 := m_isNamed_b61 F cs 0
def m_isNamed (F : Nat) (cs : RS) (x1 : Int32) (x2 : Int32) : Option Int32 := if x2 < 0 then (if x2 = (-5) then (Option.bind (m_isText F cs x1 14) fun v_9 => m_isNamed_b61 F cs v_9) else (Option.bind (rdI (cs.2.2.1 16) 2001 x1) fun v_4 => if v_4 = 1 then (Option.bind (rdI (cs.2.2.1 15) 2001 x1) fun v_6 => Option.bind (rdI (cs.2.2.1 2) 2000 v_6) fun v_7 => if v_7 = (96 - x2) then (m_isNamed_b61 F cs 1) else (m_isNamed_b60 F cs )) else (m_isNamed_b60 F cs ))) else (Option.bind (m_isSame F cs x1 x2) fun v_10 => Option.bind (ckZ v_10) fun _ => some v_10)
set_option maxHeartbeats 4000000 in
set_option maxRecDepth 100000 in
theorem s_isNamed (l : Launch) (dC : Nat → ClassId) (dI : Nat → Nat → Nat) (cB cI cJ cZ : ClassId) (h0 : Nat) (a : Nat → Nat) (K V : Nat → Nat) (fz : Value) (F : Nat) (cs : RS) (x1 : Int32) (x2 : Int32) (r9 : Int32) (hf : m_isNamed F cs x1 x2 = some r9) : okI l dC dI cB cI cJ cZ h0 a K V fz yX12_isNamed (wsOf yX12_isNamed cX12_isNamed 3 (some .boolean)) (7) [.ref h0, .int x1, .int x2] cs cs r9 := by
  intro sz
  refine Met.ofW (cc := cX12_isNamed) (maxL := 3) (ret := (some .boolean)) (by decide) rfl ?_
  intro p e s m args below meth c s₁ B hml hv
  obtain ⟨rfl, hsz, hP, hK, hD0, hZ⟩ := hv
  have hx := B.exec
  have hb := B.bytes
  have hr := B.returns
  have hts := atoms_spec (ws := (wsOf yX12_isNamed cX12_isNamed 3 (some .boolean))) B.pre
  have hown : s.vm.findClass RX12 = some m.cls := findClass_of_methodNamed B.named
  have hlocks := B.notSynchronized
  subst hsz
  have hD := hD0.self (sz := s.heap.size)
  generalize hAe : va_A (mW cB cI cJ cZ h0 a cs) s.heap.size = A at hD hZ ⊢
  have hA : ∀ q : Nat, s.heap.size ≤ q → A q := fun q h => by rw [← hAe]; exact Or.inr h
  have hS : va_S A s.heap s.heap [] := va_S.rf
  have hl := lv_entry ([.ref h0, .int x1, .int x2]) (n := 3) (Nat.le_of_ble_eq_true rfl)
  rw [lg_entry_eq]
  generalize (lg_sl ([.ref h0, .int x1, .int x2]) ++ List.replicate (3 - (lg_sl ([.ref h0, .int x1, .int x2])).length) Slot.unset).toArray = ls at hl ⊢
  have hl : lv_has ls 3 [(0, .ref h0), (1, .int x1), (2, .int x2)] := hl
  have B_61 : ∀ (y0 : Int32), m_isNamed_b61 F cs y0 = some r9 → ∀ (H : Heap) (locs : List Loc) (ls : Array Slot), va_P (dC, dI) vwCl (mW cB cI cJ cZ h0 a cs) H → va_D A (mW cB cI cJ cZ h0 a cs) → va_S A s.heap H locs → lv_has ls 3 [] → W p l e (headSpec (wsOf yX12_isNamed cX12_isNamed 3 (some .boolean)) ({ frames := 7, cells := 0, slots := 0, locals := 60 * (7) } : Room)).room s m ([.ref h0, .int x1, .int x2] : List Value).toArray below meth c H locs 0 0 (MQ below (va_Qi (fun (x : Int32) (_ : Unit) => x = r9) (fun _ t_ => va_P (dC, dI) vwCl (mW cB cI cJ cZ h0 a cs) t_.heap ∧ va_D A (mW cB cI cJ cZ h0 a cs)) A) ([.ref h0, .int x1, .int x2] : List Value).toArray s 0 0 A) (F0 m 61 ls [.int y0]) := by
    intro y0 h H locs ls hP hD hS hl
    unfold m_isNamed_b61 at h
    obtain ⟨w_1, hw_1, h⟩ := ob h
    have e2 := Option.some.inj h
    exact W.zret (v := y0) hx hb hr (nzN (ckZ_some hw_1)) (fun t_ ht hW => ⟨⟨y0, (), rfl, e2, by rw [ht]; exact hP, hD⟩, hS.F ht⟩) hS.2.2 dX12_isNamed_61
  have B_60 : m_isNamed_b60 F cs = some r9 → ∀ (H : Heap) (locs : List Loc) (ls : Array Slot), va_P (dC, dI) vwCl (mW cB cI cJ cZ h0 a cs) H → va_D A (mW cB cI cJ cZ h0 a cs) → va_S A s.heap H locs → lv_has ls 3 [] → W p l e (headSpec (wsOf yX12_isNamed cX12_isNamed 3 (some .boolean)) ({ frames := 7, cells := 0, slots := 0, locals := 60 * (7) } : Room)).room s m ([.ref h0, .int x1, .int x2] : List Value).toArray below meth c H locs 0 0 (MQ below (va_Qi (fun (x : Int32) (_ : Unit) => x = r9) (fun _ t_ => va_P (dC, dI) vwCl (mW cB cI cJ cZ h0 a cs) t_.heap ∧ va_D A (mW cB cI cJ cZ h0 a cs)) A) ([.ref h0, .int x1, .int x2] : List Value).toArray s 0 0 A) (F0 m 60 ls []) := by
    intro  h H locs ls hP hD hS hl
    unfold m_isNamed_b60 at h
    refine lv_iconst (v := 0) hx hb dX12_isNamed_60 (by decide) ?_
    exact B_61 0 h _ _ _ hP hD hS (lv_sub hl [] rfl)
  have h := hf
  unfold m_isNamed at h
  refine lv_iload_n hx hb dX12_isNamed_0 rfl (lv_at hl 2 rfl) ?_
  refine lv_if_lt (tgt := 11) hx hb dX12_isNamed_1 (by decide) (fun c_2 => ?_) (fun c_2 => ?_)
  · skip
    replace h := (if_pos c_2).symm.trans h
    refine lv_iload_n hx hb dX12_isNamed_11 rfl (lv_at hl 2 rfl) ?_
    refine lv_bipush (v := (-5)) hx hb dX12_isNamed_12 (by decide) ?_
    refine lv_icmp_ne (tgt := 28) hx hb dX12_isNamed_14 (by decide) (fun c_3 => ?_) (fun c_3 => ?_)
    · skip
      replace h := (if_neg c_3).symm.trans h
      refine lv_aload_n hx hb dX12_isNamed_28 rfl (lv_at hl 0 rfl) ?_
      refine fg_16 hx hb hts hown hK hP dX12_isNamed_29 ?_
      refine lv_iload_n hx hb dX12_isNamed_32 rfl (lv_at hl 1 rfl) ?_
      obtain ⟨v_4, hv_4, h⟩ := ob h
      refine ag_16 hx hb hK hP hv_4 dX12_isNamed_33 ?_
      refine lv_iconst (v := 1) hx hb dX12_isNamed_34 (by decide) ?_
      refine lv_icmp_ne (tgt := 60) hx hb dX12_isNamed_35 (by decide) (fun c_5 => ?_) (fun c_5 => ?_)
      · skip
        replace h := (if_neg c_5).symm.trans h
        exact B_60  h _ _ _ hP hD hS (lv_sub hl [] rfl)
      · skip
        replace h := (if_pos c_5).symm.trans h
        refine lv_aload_n hx hb dX12_isNamed_38 rfl (lv_at hl 0 rfl) ?_
        refine fg_2 hx hb hts hown hK hP dX12_isNamed_39 ?_
        refine lv_aload_n hx hb dX12_isNamed_42 rfl (lv_at hl 0 rfl) ?_
        refine fg_15 hx hb hts hown hK hP dX12_isNamed_43 ?_
        refine lv_iload_n hx hb dX12_isNamed_46 rfl (lv_at hl 1 rfl) ?_
        obtain ⟨v_6, hv_6, h⟩ := ob h
        refine ag_15 hx hb hK hP hv_6 dX12_isNamed_47 ?_
        obtain ⟨v_7, hv_7, h⟩ := ob h
        refine ag_2 hx hb hK hP hv_7 dX12_isNamed_48 ?_
        refine lv_bipush (v := 96) hx hb dX12_isNamed_49 (by decide) ?_
        refine lv_iload_n hx hb dX12_isNamed_51 rfl (lv_at hl 2 rfl) ?_
        refine lv_isub hx hb dX12_isNamed_52 ?_
        refine lv_icmp_ne (tgt := 60) hx hb dX12_isNamed_53 (by decide) (fun c_8 => ?_) (fun c_8 => ?_)
        · skip
          replace h := (if_neg c_8).symm.trans h
          exact B_60  h _ _ _ hP hD hS (lv_sub hl [] rfl)
        · skip
          replace h := (if_pos c_8).symm.trans h
          refine lv_iconst (v := 1) hx hb dX12_isNamed_56 (by decide) ?_
          refine lv_goto (tgt := 61) hx hb dX12_isNamed_57 (by decide) ?_
          exact B_61 1 h _ _ _ hP hD hS (lv_sub hl [] rfl)
    · skip
      replace h := (if_pos c_3).symm.trans h
      refine lv_aload_n hx hb dX12_isNamed_17 rfl (lv_at hl 0 rfl) ?_
      refine lv_iload_n hx hb dX12_isNamed_18 rfl (lv_at hl 1 rfl) ?_
      refine va_ldcSW (own := RX12) (index := 374) (tx := soT 14) (q := K 14) hx hb hown (hZ.ref 14 (by decide)) dX12_isNamed_19 ?_
      obtain ⟨v_9, hv_9, h⟩ := ob h
      refine calI (As := [.int x1, .ref (K 14)]) hx hb hml hts hown hK hP hD hS hA hZ (s_isText l dC dI cB cI cJ cZ h0 a K V fz F cs x1 14 (by decide) v_9 hv_9) (cw_isText hts (fr := 6) (Nat.le_of_ble_eq_true rfl) (Nat.le_of_ble_eq_true rfl)) rfl hl.1 (Nat.le_of_ble_eq_true rfl) ⟨Nat.zero_le _, Nat.zero_le _⟩ dX12_isNamed_22 (fun H locs hP hD hS => ?_)
      refine lv_goto (tgt := 61) hx hb dX12_isNamed_25 (by decide) ?_
      exact B_61 v_9 h _ _ _ hP hD hS (lv_sub hl [] rfl)
  · skip
    replace h := (if_neg c_2).symm.trans h
    refine lv_aload_n hx hb dX12_isNamed_4 rfl (lv_at hl 0 rfl) ?_
    refine lv_iload_n hx hb dX12_isNamed_5 rfl (lv_at hl 1 rfl) ?_
    refine lv_iload_n hx hb dX12_isNamed_6 rfl (lv_at hl 2 rfl) ?_
    obtain ⟨v_10, hv_10, h⟩ := ob h
    refine calI (As := [.int x1, .int x2]) hx hb hml hts hown hK hP hD hS hA hZ (s_isSame l dC dI cB cI cJ cZ h0 a K V fz F cs x1 x2 v_10 hv_10) (cw_isSame hts (fr := 0) (Nat.le_of_ble_eq_true rfl) (Nat.le_of_ble_eq_true rfl)) rfl hl.1 (Nat.le_of_ble_eq_true rfl) ⟨Nat.zero_le _, Nat.zero_le _⟩ dX12_isNamed_7 (fun H locs hP hD hS => ?_)
    obtain ⟨w_11, hw_11, h⟩ := ob h
    have e2 := Option.some.inj h
    exact W.zret (v := v_10) hx hb hr (nzN (ckZ_some hw_11)) (fun t_ ht hW => ⟨⟨v_10, (), rfl, e2, by rw [ht]; exact hP, hD⟩, hS.F ht⟩) hS.2.2 dX12_isNamed_10
theorem cw_isNamed {R : Room} {s : State} {args : Array Value} {y0 : MethodName} {c0 : ByteArray} {n0 : Nat} {r0 : Option FieldType} (hts : ∀ w ∈ wsOf y0 c0 n0 r0, w.before args s = true) {fr : Nat} (h1 : fr + 1 ≤ R.frames) (h2 : 8 + (3 + 11) + 60 * fr ≤ R.locals) : CallW R s args RX12 RX12 528 yX12_isNamed cX12_isNamed 3 (some .boolean) (wsOf yX12_isNamed cX12_isNamed 3 (some .boolean)) ({ frames := fr, cells := 0, slots := 0, locals := 60 * fr } : Room) 0 0 2 := cwV 2 hts (gd_all (in_V kw_2447 kw_2449 kw_175 kw_191 kc_X12_isNamed)) rfl rfl rfl (by decide +kernel) ⟨h1, h2⟩
theorem dX12_find_0 : decode cX12_find 0 = .ok (.aload_n 0, 1) := by decide +kernel
theorem dX12_find_1 : decode cX12_find 1 = .ok (.getfield 73, 3) := by decide +kernel
theorem dX12_find_4 : decode cX12_find 4 = .ok (.iload_n 1, 1) := by decide +kernel
theorem dX12_find_5 : decode cX12_find 5 = .ok (.iaload, 1) := by decide +kernel
theorem dX12_find_6 : decode cX12_find 6 = .ok (.istore_n 2, 1) := by decide +kernel
theorem dX12_find_7 : decode cX12_find 7 = .ok (.aload_n 0, 1) := by decide +kernel
theorem dX12_find_8 : decode cX12_find 8 = .ok (.getfield 64, 3) := by decide +kernel
theorem dX12_find_11 : decode cX12_find 11 = .ok (.iload_n 1, 1) := by decide +kernel
theorem dX12_find_12 : decode cX12_find 12 = .ok (.iaload, 1) := by decide +kernel
theorem dX12_find_13 : decode cX12_find 13 = .ok (.istore_n 3, 1) := by decide +kernel
theorem dX12_find_14 : decode cX12_find 14 = .ok (.iconst 0, 1) := by decide +kernel
theorem dX12_find_15 : decode cX12_find 15 = .ok (.istore 4, 2) := by decide +kernel
theorem dX12_find_17 : decode cX12_find 17 = .ok (.iconst 1, 1) := by decide +kernel
theorem dX12_find_18 : decode cX12_find 18 = .ok (.istore 5, 2) := by decide +kernel
theorem dX12_find_20 : decode cX12_find 20 = .ok (.aload_n 0, 1) := by decide +kernel
theorem dX12_find_21 : decode cX12_find 21 = .ok (.getfield 512, 3) := by decide +kernel
theorem dX12_find_24 : decode cX12_find 24 = .ok (.ifCond .ne 133, 3) := by decide +kernel
theorem dX12_find_27 : decode cX12_find 27 = .ok (.iconst 0, 1) := by decide +kernel
theorem dX12_find_28 : decode cX12_find 28 = .ok (.istore 6, 2) := by decide +kernel
theorem dX12_find_30 : decode cX12_find 30 = .ok (.iload 6, 2) := by decide +kernel
theorem dX12_find_32 : decode cX12_find 32 = .ok (.aload_n 0, 1) := by decide +kernel
theorem dX12_find_33 : decode cX12_find 33 = .ok (.getfield 515, 3) := by decide +kernel
theorem dX12_find_36 : decode cX12_find 36 = .ok (.if_icmp .ge 118, 3) := by decide +kernel
theorem dX12_find_39 : decode cX12_find 39 = .ok (.iconst 3, 1) := by decide +kernel
theorem dX12_find_40 : decode cX12_find 40 = .ok (.aload_n 0, 1) := by decide +kernel
theorem dX12_find_41 : decode cX12_find 41 = .ok (.getfield 518, 3) := by decide +kernel
theorem dX12_find_44 : decode cX12_find 44 = .ok (.imul, 1) := by decide +kernel
theorem dX12_find_45 : decode cX12_find 45 = .ok (.iload 6, 2) := by decide +kernel
theorem dX12_find_47 : decode cX12_find 47 = .ok (.iadd, 1) := by decide +kernel
theorem dX12_find_48 : decode cX12_find 48 = .ok (.istore 7, 2) := by decide +kernel
theorem dX12_find_50 : decode cX12_find 50 = .ok (.iload_n 3, 1) := by decide +kernel
theorem dX12_find_51 : decode cX12_find 51 = .ok (.iconst (-1), 1) := by decide +kernel
theorem dX12_find_52 : decode cX12_find 52 = .ok (.if_icmp .eq 18, 3) := by decide +kernel
theorem dX12_find_55 : decode cX12_find 55 = .ok (.aload_n 0, 1) := by decide +kernel
theorem dX12_find_56 : decode cX12_find 56 = .ok (.iload_n 2, 1) := by decide +kernel
theorem dX12_find_57 : decode cX12_find 57 = .ok (.aload_n 0, 1) := by decide +kernel
theorem dX12_find_58 : decode cX12_find 58 = .ok (.getfield 145, 3) := by decide +kernel
theorem dX12_find_61 : decode cX12_find 61 = .ok (.iload 7, 2) := by decide +kernel
theorem dX12_find_63 : decode cX12_find 63 = .ok (.iaload, 1) := by decide +kernel
theorem dX12_find_64 : decode cX12_find 64 = .ok (.invokevirtual 508, 3) := by decide +kernel
theorem dX12_find_67 : decode cX12_find 67 = .ok (.ifCond .eq 81, 3) := by decide +kernel
theorem dX12_find_70 : decode cX12_find 70 = .ok (.iload_n 3, 1) := by decide +kernel
theorem dX12_find_71 : decode cX12_find 71 = .ok (.iconst (-1), 1) := by decide +kernel
theorem dX12_find_72 : decode cX12_find 72 = .ok (.if_icmp .ne 7, 3) := by decide +kernel
theorem dX12_find_75 : decode cX12_find 75 = .ok (.iload_n 2, 1) := by decide +kernel
theorem dX12_find_76 : decode cX12_find 76 = .ok (.goto 4, 3) := by decide +kernel
theorem dX12_find_79 : decode cX12_find 79 = .ok (.iload_n 3, 1) := by decide +kernel
theorem dX12_find_80 : decode cX12_find 80 = .ok (.istore 8, 2) := by decide +kernel
theorem dX12_find_82 : decode cX12_find 82 = .ok (.iconst 0, 1) := by decide +kernel
theorem dX12_find_83 : decode cX12_find 83 = .ok (.istore 9, 2) := by decide +kernel
theorem dX12_find_85 : decode cX12_find 85 = .ok (.iload 9, 2) := by decide +kernel
theorem dX12_find_87 : decode cX12_find 87 = .ok (.aload_n 0, 1) := by decide +kernel
theorem dX12_find_88 : decode cX12_find 88 = .ok (.iload 7, 2) := by decide +kernel
theorem dX12_find_90 : decode cX12_find 90 = .ok (.invokevirtual 521, 3) := by decide +kernel
theorem dX12_find_93 : decode cX12_find 93 = .ok (.if_icmp .ge 55, 3) := by decide +kernel
theorem dX12_find_96 : decode cX12_find 96 = .ok (.aload_n 0, 1) := by decide +kernel
theorem dX12_find_97 : decode cX12_find 97 = .ok (.iload 8, 2) := by decide +kernel
theorem dX12_find_99 : decode cX12_find 99 = .ok (.aload_n 0, 1) := by decide +kernel
theorem dX12_find_100 : decode cX12_find 100 = .ok (.iload 7, 2) := by decide +kernel
theorem dX12_find_102 : decode cX12_find 102 = .ok (.iload 9, 2) := by decide +kernel
theorem dX12_find_104 : decode cX12_find 104 = .ok (.invokevirtual 524, 3) := by decide +kernel
theorem dX12_find_107 : decode cX12_find 107 = .ok (.invokevirtual 528, 3) := by decide +kernel
theorem dX12_find_110 : decode cX12_find 110 = .ok (.ifCond .eq 32, 3) := by decide +kernel
theorem dX12_find_113 : decode cX12_find 113 = .ok (.iinc 4 1, 3) := by decide +kernel
theorem dX12_find_116 : decode cX12_find 116 = .ok (.aload_n 0, 1) := by decide +kernel
theorem dX12_find_117 : decode cX12_find 117 = .ok (.getfield 82, 3) := by decide +kernel
theorem dX12_find_120 : decode cX12_find 120 = .ok (.iload_n 1, 1) := by decide +kernel
theorem dX12_find_121 : decode cX12_find 121 = .ok (.aload_n 0, 1) := by decide +kernel
theorem dX12_find_122 : decode cX12_find 122 = .ok (.getfield 184, 3) := by decide +kernel
theorem dX12_find_125 : decode cX12_find 125 = .ok (.iload 7, 2) := by decide +kernel
theorem dX12_find_127 : decode cX12_find 127 = .ok (.iaload, 1) := by decide +kernel
theorem dX12_find_128 : decode cX12_find 128 = .ok (.iload 9, 2) := by decide +kernel
theorem dX12_find_130 : decode cX12_find 130 = .ok (.iadd, 1) := by decide +kernel
theorem dX12_find_131 : decode cX12_find 131 = .ok (.iastore, 1) := by decide +kernel
theorem dX12_find_132 : decode cX12_find 132 = .ok (.aload_n 0, 1) := by decide +kernel
theorem dX12_find_133 : decode cX12_find 133 = .ok (.iload 7, 2) := by decide +kernel
theorem dX12_find_135 : decode cX12_find 135 = .ok (.iload 9, 2) := by decide +kernel
theorem dX12_find_137 : decode cX12_find 137 = .ok (.invokevirtual 531, 3) := by decide +kernel
theorem dX12_find_140 : decode cX12_find 140 = .ok (.istore 5, 2) := by decide +kernel
theorem dX12_find_142 : decode cX12_find 142 = .ok (.iinc 9 1, 3) := by decide +kernel
theorem dX12_find_145 : decode cX12_find 145 = .ok (.goto (-60), 3) := by decide +kernel
theorem dX12_find_148 : decode cX12_find 148 = .ok (.iinc 6 1, 3) := by decide +kernel
theorem dX12_find_151 : decode cX12_find 151 = .ok (.goto (-121), 3) := by decide +kernel
theorem dX12_find_154 : decode cX12_find 154 = .ok (.goto 162, 3) := by decide +kernel
theorem dX12_find_157 : decode cX12_find 157 = .ok (.iload_n 3, 1) := by decide +kernel
theorem dX12_find_158 : decode cX12_find 158 = .ok (.iconst (-1), 1) := by decide +kernel
theorem dX12_find_159 : decode cX12_find 159 = .ok (.if_icmp .ne 157, 3) := by decide +kernel
theorem dX12_find_162 : decode cX12_find 162 = .ok (.aload_n 0, 1) := by decide +kernel
theorem dX12_find_163 : decode cX12_find 163 = .ok (.getfield 518, 3) := by decide +kernel
theorem dX12_find_166 : decode cX12_find 166 = .ok (.istore 6, 2) := by decide +kernel
theorem dX12_find_168 : decode cX12_find 168 = .ok (.aload_n 0, 1) := by decide +kernel
theorem dX12_find_169 : decode cX12_find 169 = .ok (.getfield 512, 3) := by decide +kernel
theorem dX12_find_172 : decode cX12_find 172 = .ok (.iconst 1, 1) := by decide +kernel
theorem dX12_find_173 : decode cX12_find 173 = .ok (.if_icmp .ne 13, 3) := by decide +kernel
theorem dX12_find_176 : decode cX12_find 176 = .ok (.aload_n 0, 1) := by decide +kernel
theorem dX12_find_177 : decode cX12_find 177 = .ok (.getfield 97, 3) := by decide +kernel
theorem dX12_find_180 : decode cX12_find 180 = .ok (.iload 6, 2) := by decide +kernel
theorem dX12_find_182 : decode cX12_find 182 = .ok (.iaload, 1) := by decide +kernel
theorem dX12_find_183 : decode cX12_find 183 = .ok (.goto 10, 3) := by decide +kernel
theorem dX12_find_186 : decode cX12_find 186 = .ok (.aload_n 0, 1) := by decide +kernel
theorem dX12_find_187 : decode cX12_find 187 = .ok (.getfield 88, 3) := by decide +kernel
theorem dX12_find_190 : decode cX12_find 190 = .ok (.iload 6, 2) := by decide +kernel
theorem dX12_find_192 : decode cX12_find 192 = .ok (.iaload, 1) := by decide +kernel
theorem dX12_find_193 : decode cX12_find 193 = .ok (.istore 7, 2) := by decide +kernel
theorem dX12_find_195 : decode cX12_find 195 = .ok (.iconst 0, 1) := by decide +kernel
theorem dX12_find_196 : decode cX12_find 196 = .ok (.istore 8, 2) := by decide +kernel
theorem dX12_find_198 : decode cX12_find 198 = .ok (.iload 8, 2) := by decide +kernel
theorem dX12_find_200 : decode cX12_find 200 = .ok (.iload 7, 2) := by decide +kernel
theorem dX12_find_202 : decode cX12_find 202 = .ok (.if_icmp .ge 114, 3) := by decide +kernel
theorem dX12_find_205 : decode cX12_find 205 = .ok (.aload_n 0, 1) := by decide +kernel
theorem dX12_find_206 : decode cX12_find 206 = .ok (.getfield 512, 3) := by decide +kernel
theorem dX12_find_209 : decode cX12_find 209 = .ok (.iconst 1, 1) := by decide +kernel
theorem dX12_find_210 : decode cX12_find 210 = .ok (.if_icmp .ne 19, 3) := by decide +kernel
theorem dX12_find_213 : decode cX12_find 213 = .ok (.aload_n 0, 1) := by decide +kernel
theorem dX12_find_214 : decode cX12_find 214 = .ok (.getfield 124, 3) := by decide +kernel
theorem dX12_find_217 : decode cX12_find 217 = .ok (.bipush 8, 2) := by decide +kernel
theorem dX12_find_219 : decode cX12_find 219 = .ok (.iload 6, 2) := by decide +kernel
theorem dX12_find_221 : decode cX12_find 221 = .ok (.imul, 1) := by decide +kernel
theorem dX12_find_222 : decode cX12_find 222 = .ok (.iload 8, 2) := by decide +kernel
theorem dX12_find_224 : decode cX12_find 224 = .ok (.iadd, 1) := by decide +kernel
theorem dX12_find_225 : decode cX12_find 225 = .ok (.iaload, 1) := by decide +kernel
theorem dX12_find_226 : decode cX12_find 226 = .ok (.goto 16, 3) := by decide +kernel
theorem dX12_find_229 : decode cX12_find 229 = .ok (.aload_n 0, 1) := by decide +kernel
theorem dX12_find_230 : decode cX12_find 230 = .ok (.getfield 115, 3) := by decide +kernel
theorem dX12_find_233 : decode cX12_find 233 = .ok (.bipush 8, 2) := by decide +kernel
theorem dX12_find_235 : decode cX12_find 235 = .ok (.iload 6, 2) := by decide +kernel
theorem dX12_find_237 : decode cX12_find 237 = .ok (.imul, 1) := by decide +kernel
theorem dX12_find_238 : decode cX12_find 238 = .ok (.iload 8, 2) := by decide +kernel
theorem dX12_find_240 : decode cX12_find 240 = .ok (.iadd, 1) := by decide +kernel
theorem dX12_find_241 : decode cX12_find 241 = .ok (.iaload, 1) := by decide +kernel
theorem dX12_find_242 : decode cX12_find 242 = .ok (.istore 9, 2) := by decide +kernel
theorem dX12_find_244 : decode cX12_find 244 = .ok (.iload 9, 2) := by decide +kernel
theorem dX12_find_246 : decode cX12_find 246 = .ok (.iconst (-1), 1) := by decide +kernel
theorem dX12_find_247 : decode cX12_find 247 = .ok (.if_icmp .eq 63, 3) := by decide +kernel
theorem dX12_find_250 : decode cX12_find 250 = .ok (.aload_n 0, 1) := by decide +kernel
theorem dX12_find_251 : decode cX12_find 251 = .ok (.iload_n 2, 1) := by decide +kernel
theorem dX12_find_252 : decode cX12_find 252 = .ok (.iload 9, 2) := by decide +kernel
theorem dX12_find_254 : decode cX12_find 254 = .ok (.invokevirtual 508, 3) := by decide +kernel
theorem dX12_find_257 : decode cX12_find 257 = .ok (.ifCond .eq 53, 3) := by decide +kernel
theorem dX12_find_260 : decode cX12_find 260 = .ok (.iinc 4 1, 3) := by decide +kernel
theorem dX12_find_263 : decode cX12_find 263 = .ok (.aload_n 0, 1) := by decide +kernel
theorem dX12_find_264 : decode cX12_find 264 = .ok (.getfield 82, 3) := by decide +kernel
theorem dX12_find_267 : decode cX12_find 267 = .ok (.iload_n 1, 1) := by decide +kernel
theorem dX12_find_268 : decode cX12_find 268 = .ok (.iload 8, 2) := by decide +kernel
theorem dX12_find_270 : decode cX12_find 270 = .ok (.iastore, 1) := by decide +kernel
theorem dX12_find_271 : decode cX12_find 271 = .ok (.aload_n 0, 1) := by decide +kernel
theorem dX12_find_272 : decode cX12_find 272 = .ok (.getfield 512, 3) := by decide +kernel
theorem dX12_find_275 : decode cX12_find 275 = .ok (.iconst 1, 1) := by decide +kernel
theorem dX12_find_276 : decode cX12_find 276 = .ok (.if_icmp .ne 19, 3) := by decide +kernel
theorem dX12_find_279 : decode cX12_find 279 = .ok (.aload_n 0, 1) := by decide +kernel
theorem dX12_find_280 : decode cX12_find 280 = .ok (.getfield 187, 3) := by decide +kernel
theorem dX12_find_283 : decode cX12_find 283 = .ok (.bipush 8, 2) := by decide +kernel
theorem dX12_find_285 : decode cX12_find 285 = .ok (.iload 6, 2) := by decide +kernel
theorem dX12_find_287 : decode cX12_find 287 = .ok (.imul, 1) := by decide +kernel
theorem dX12_find_288 : decode cX12_find 288 = .ok (.iload 8, 2) := by decide +kernel
theorem dX12_find_290 : decode cX12_find 290 = .ok (.iadd, 1) := by decide +kernel
theorem dX12_find_291 : decode cX12_find 291 = .ok (.iaload, 1) := by decide +kernel
theorem dX12_find_292 : decode cX12_find 292 = .ok (.goto 16, 3) := by decide +kernel
theorem dX12_find_295 : decode cX12_find 295 = .ok (.aload_n 0, 1) := by decide +kernel
theorem dX12_find_296 : decode cX12_find 296 = .ok (.getfield 118, 3) := by decide +kernel
theorem dX12_find_299 : decode cX12_find 299 = .ok (.bipush 8, 2) := by decide +kernel
theorem dX12_find_301 : decode cX12_find 301 = .ok (.iload 6, 2) := by decide +kernel
theorem dX12_find_303 : decode cX12_find 303 = .ok (.imul, 1) := by decide +kernel
theorem dX12_find_304 : decode cX12_find 304 = .ok (.iload 8, 2) := by decide +kernel
theorem dX12_find_306 : decode cX12_find 306 = .ok (.iadd, 1) := by decide +kernel
theorem dX12_find_307 : decode cX12_find 307 = .ok (.iaload, 1) := by decide +kernel
theorem dX12_find_308 : decode cX12_find 308 = .ok (.istore 5, 2) := by decide +kernel
theorem dX12_find_310 : decode cX12_find 310 = .ok (.iinc 8 1, 3) := by decide +kernel
theorem dX12_find_313 : decode cX12_find 313 = .ok (.goto (-115), 3) := by decide +kernel
theorem dX12_find_316 : decode cX12_find 316 = .ok (.iload 4, 2) := by decide +kernel
theorem dX12_find_318 : decode cX12_find 318 = .ok (.ifCond .ne 17, 3) := by decide +kernel
theorem dX12_find_321 : decode cX12_find 321 = .ok (.aload_n 0, 1) := by decide +kernel
theorem dX12_find_322 : decode cX12_find 322 = .ok (.iconst 2, 1) := by decide +kernel
theorem dX12_find_323 : decode cX12_find 323 = .ok (.aload_n 0, 1) := by decide +kernel
theorem dX12_find_324 : decode cX12_find 324 = .ok (.getfield 43, 3) := by decide +kernel
theorem dX12_find_327 : decode cX12_find 327 = .ok (.iload_n 2, 1) := by decide +kernel
theorem dX12_find_328 : decode cX12_find 328 = .ok (.iaload, 1) := by decide +kernel
theorem dX12_find_329 : decode cX12_find 329 = .ok (.invokevirtual 305, 3) := by decide +kernel
theorem dX12_find_332 : decode cX12_find 332 = .ok (.goto 20, 3) := by decide +kernel
theorem dX12_find_335 : decode cX12_find 335 = .ok (.iload 4, 2) := by decide +kernel
theorem dX12_find_337 : decode cX12_find 337 = .ok (.iconst 1, 1) := by decide +kernel
theorem dX12_find_338 : decode cX12_find 338 = .ok (.if_icmp .le 14, 3) := by decide +kernel
theorem dX12_find_341 : decode cX12_find 341 = .ok (.aload_n 0, 1) := by decide +kernel
theorem dX12_find_342 : decode cX12_find 342 = .ok (.iconst 3, 1) := by decide +kernel
theorem dX12_find_343 : decode cX12_find 343 = .ok (.aload_n 0, 1) := by decide +kernel
theorem dX12_find_344 : decode cX12_find 344 = .ok (.getfield 43, 3) := by decide +kernel
theorem dX12_find_347 : decode cX12_find 347 = .ok (.iload_n 2, 1) := by decide +kernel
theorem dX12_find_348 : decode cX12_find 348 = .ok (.iaload, 1) := by decide +kernel
theorem dX12_find_349 : decode cX12_find 349 = .ok (.invokevirtual 305, 3) := by decide +kernel
theorem dX12_find_352 : decode cX12_find 352 = .ok (.iload 5, 2) := by decide +kernel
theorem dX12_find_354 : decode cX12_find 354 = .ok (.ireturn, 1) := by decide +kernel
def m_find_b352 (F : Nat) (cs1 : RS) (u5 : Int32) : Option (RS × Int32) := some (cs1, u5)
def m_find_b316 (F : Nat) (cs1 : RS) (u2 : Int32) (u4 : Int32) (u5 : Int32) : Option (RS × Int32) := if u4 = 0 then (Option.bind (rdI (cs1.2.2.1 15) 2001 u2) fun v_5 => Option.bind (m_tell F cs1 2 v_5) fun cs_6 => m_find_b352 F cs_6 u5) else (if u4 ≤ 1 then (m_find_b352 F cs1 u5) else (Option.bind (rdI (cs1.2.2.1 15) 2001 u2) fun v_3 => Option.bind (m_tell F cs1 3 v_3) fun cs_4 => m_find_b352 F cs_4 u5))
def m_find_b148 (F : Nat) (rc30 : RS → Int32 → Int32 → Int32 → Int32 → Int32 → Int32 → Option (RS × Int32)) (cs1 : RS) (u1 : Int32) (u2 : Int32) (u3 : Int32) (u4 : Int32) (u5 : Int32) (u6 : Int32) : Option (RS × Int32) := rc30 cs1 u1 u2 u3 u4 u5 (u6 + 1)
def m_find_b142 (F : Nat) (rc30 : RS → Int32 → Int32 → Int32 → Int32 → Int32 → Int32 → Option (RS × Int32)) (rc85 : RS → Int32 → Int32 → Int32 → Int32 → Int32 → Int32 → Int32 → Int32 → Int32 → Option (RS × Int32)) (cs1 : RS) (u1 : Int32) (u2 : Int32) (u3 : Int32) (u4 : Int32) (u5 : Int32) (u6 : Int32) (u7 : Int32) (u8 : Int32) (u9 : Int32) : Option (RS × Int32) := rc85 cs1 u1 u2 u3 u4 u5 u6 u7 u8 (u9 + 1)
def m_find_L85 (F : Nat) (rc30 : RS → Int32 → Int32 → Int32 → Int32 → Int32 → Int32 → Option (RS × Int32)) : Nat → RS → Int32 → Int32 → Int32 → Int32 → Int32 → Int32 → Int32 → Int32 → Int32 → Option (RS × Int32)
  | 0, _, _, _, _, _, _, _, _, _, _ => none
  | lf_85 + 1, cs1, u1, u2, u3, u4, u5, u6, u7, u8, u9 => Option.bind (m_columnsOf F cs1 u7) fun v_7 => if v_7 ≤ u9 then (m_find_b148 F rc30 cs1 u1 u2 u3 u4 u5 u6) else (Option.bind (m_nameOf F cs1 u7 u9) fun v_9 => Option.bind (m_isNamed F cs1 u8 v_9) fun v_10 => if v_10 = 0 then (m_find_b142 F rc30 (m_find_L85 F rc30 lf_85) cs1 u1 u2 u3 u4 u5 u6 u7 u8 u9) else (Option.bind (rdI (cs1.2.2.1 79) 180 u7) fun v_12 => Option.bind (wrI cs1 33 121 u1 (v_12 + u9)) fun cs_13 => Option.bind (m_typeOf F cs_13 u7 u9) fun v_14 => m_find_b142 F rc30 (m_find_L85 F rc30 lf_85) cs_13 u1 u2 u3 (u4 + 1) v_14 u6 u7 u8 u9))
def m_find_b80 (F : Nat) (rc30 : RS → Int32 → Int32 → Int32 → Int32 → Int32 → Int32 → Option (RS × Int32)) (cs1 : RS) (u1 : Int32) (u2 : Int32) (u3 : Int32) (u4 : Int32) (u5 : Int32) (u6 : Int32) (u7 : Int32) (y0 : Int32) : Option (RS × Int32) := m_find_L85 F rc30 F cs1 u1 u2 u3 u4 u5 u6 u7 y0 0
def m_find_b70 (F : Nat) (rc30 : RS → Int32 → Int32 → Int32 → Int32 → Int32 → Int32 → Option (RS × Int32)) (cs1 : RS) (u1 : Int32) (u2 : Int32) (u3 : Int32) (u4 : Int32) (u5 : Int32) (u6 : Int32) (u7 : Int32) : Option (RS × Int32) := if u3 = (-1) then (m_find_b80 F rc30 cs1 u1 u2 u3 u4 u5 u6 u7 u2) else (m_find_b80 F rc30 cs1 u1 u2 u3 u4 u5 u6 u7 u3)
def m_find_L30 (F : Nat) : Nat → RS → Int32 → Int32 → Int32 → Int32 → Int32 → Int32 → Option (RS × Int32)
  | 0, _, _, _, _, _, _, _ => none
  | lf_30 + 1, cs1, u1, u2, u3, u4, u5, u6 => if (cs1.1 78) ≤ u6 then (m_find_b316 F cs1 u2 u4 u5) else (if u3 = (-1) then (m_find_b70 F (m_find_L30 F lf_30) cs1 u1 u2 u3 u4 u5 u6 ((3 * (cs1.1 77)) + u6)) else (Option.bind (rdI (cs1.2.2.1 55) 180 ((3 * (cs1.1 77)) + u6)) fun v_18 => Option.bind (m_isSame F cs1 u2 v_18) fun v_19 => if v_19 = 0 then (m_find_b148 F (m_find_L30 F lf_30) cs1 u1 u2 u3 u4 u5 u6) else (m_find_b70 F (m_find_L30 F lf_30) cs1 u1 u2 u3 u4 u5 u6 ((3 * (cs1.1 77)) + u6))))
def m_find_b310 (F : Nat) (rc198 : RS → Int32 → Int32 → Int32 → Int32 → Int32 → Int32 → Int32 → Option (RS × Int32)) (cs1 : RS) (u1 : Int32) (u2 : Int32) (u4 : Int32) (u5 : Int32) (u6 : Int32) (u7 : Int32) (u8 : Int32) : Option (RS × Int32) := rc198 cs1 u1 u2 u4 u5 u6 u7 (u8 + 1)
def m_find_b308 (F : Nat) (rc198 : RS → Int32 → Int32 → Int32 → Int32 → Int32 → Int32 → Int32 → Option (RS × Int32)) (cs1 : RS) (u1 : Int32) (u2 : Int32) (u4 : Int32) (u6 : Int32) (u7 : Int32) (u8 : Int32) (y0 : Int32) : Option (RS × Int32) := m_find_b310 F rc198 cs1 u1 u2 u4 y0 u6 u7 u8
def m_find_b242 (F : Nat) (rc198 : RS → Int32 → Int32 → Int32 → Int32 → Int32 → Int32 → Int32 → Option (RS × Int32)) (cs1 : RS) (u1 : Int32) (u2 : Int32) (u4 : Int32) (u5 : Int32) (u6 : Int32) (u7 : Int32) (u8 : Int32) (y0 : Int32) : Option (RS × Int32) := if y0 = (-1) then (m_find_b310 F rc198 cs1 u1 u2 u4 u5 u6 u7 u8) else (Option.bind (m_isSame F cs1 u2 y0) fun v_22 => if v_22 = 0 then (m_find_b310 F rc198 cs1 u1 u2 u4 u5 u6 u7 u8) else (Option.bind (wrI cs1 33 121 u1 u8) fun cs_24 => if (cs_24.1 76) = 1 then (Option.bind (rdI (cs_24.2.2.1 80) 480 ((8 * u6) + u8)) fun v_27 => m_find_b308 F rc198 cs_24 u1 u2 (u4 + 1) u6 u7 u8 v_27) else (Option.bind (rdI (cs_24.2.2.1 46) 480 ((8 * u6) + u8)) fun v_26 => m_find_b308 F rc198 cs_24 u1 u2 (u4 + 1) u6 u7 u8 v_26)))
def m_find_L198 (F : Nat) : Nat → RS → Int32 → Int32 → Int32 → Int32 → Int32 → Int32 → Int32 → Option (RS × Int32)
  | 0, _, _, _, _, _, _, _, _ => none
  | lf_198 + 1, cs1, u1, u2, u4, u5, u6, u7, u8 => if u7 ≤ u8 then (m_find_b316 F cs1 u2 u4 u5) else (if (cs1.1 76) = 1 then (Option.bind (rdI (cs1.2.2.1 48) 480 ((8 * u6) + u8)) fun v_31 => m_find_b242 F (m_find_L198 F lf_198) cs1 u1 u2 u4 u5 u6 u7 u8 v_31) else (Option.bind (rdI (cs1.2.2.1 45) 480 ((8 * u6) + u8)) fun v_30 => m_find_b242 F (m_find_L198 F lf_198) cs1 u1 u2 u4 u5 u6 u7 u8 v_30))
def m_find_b193 (F : Nat) (cs1 : RS) (u1 : Int32) (u2 : Int32) (u4 : Int32) (u5 : Int32) (u6 : Int32) (y0 : Int32) : Option (RS × Int32) := m_find_L198 F F cs1 u1 u2 u4 u5 u6 y0 0
def m_find (F : Nat) (cs : RS) (x1 : Int32) : Option (RS × Int32) := Option.bind (rdI (cs.2.2.1 30) 121 x1) fun v_32 => Option.bind (rdI (cs.2.2.1 27) 121 x1) fun v_33 => if (cs.1 76) = 0 then (m_find_L30 F F cs x1 v_32 v_33 0 1 0) else (if v_33 = (-1) then (if (cs.1 76) = 1 then (Option.bind (rdI (cs.2.2.1 39) 60 (cs.1 77)) fun v_38 => m_find_b193 F cs x1 v_32 0 1 (cs.1 77) v_38) else (Option.bind (rdI (cs.2.2.1 36) 60 (cs.1 77)) fun v_37 => m_find_b193 F cs x1 v_32 0 1 (cs.1 77) v_37)) else (m_find_b316 F cs v_32 0 1))
set_option maxHeartbeats 4000000 in
set_option maxRecDepth 100000 in
theorem s_find (l : Launch) (dC : Nat → ClassId) (dI : Nat → Nat → Nat) (cB cI cJ cZ : ClassId) (h0 : Nat) (a : Nat → Nat) (K V : Nat → Nat) (fz : Value) (F : Nat) (cs : RS) (x1 : Int32) (cs9 : RS) (r9 : Int32) (hf : m_find F cs x1 = some (cs9, r9)) : okI l dC dI cB cI cJ cZ h0 a K V fz yX12_find (wsOf yX12_find cX12_find 10 (some .int)) (8) [.ref h0, .int x1] cs cs9 r9 := by
  intro sz
  refine Met.ofW (cc := cX12_find) (maxL := 10) (ret := (some .int)) (by decide) rfl ?_
  intro p e s m args below meth c s₁ B hml hv
  obtain ⟨rfl, hsz, hP, hK, hD0, hZ⟩ := hv
  have hx := B.exec
  have hb := B.bytes
  have hr := B.returns
  have hts := atoms_spec (ws := (wsOf yX12_find cX12_find 10 (some .int))) B.pre
  have hown : s.vm.findClass RX12 = some m.cls := findClass_of_methodNamed B.named
  have hlocks := B.notSynchronized
  subst hsz
  have hD := hD0.self (sz := s.heap.size)
  generalize hAe : va_A (mW cB cI cJ cZ h0 a cs) s.heap.size = A at hD hZ ⊢
  have hA : ∀ q : Nat, s.heap.size ≤ q → A q := fun q h => by rw [← hAe]; exact Or.inr h
  have hS : va_S A s.heap s.heap [] := va_S.rf
  have hl := lv_entry ([.ref h0, .int x1]) (n := 10) (Nat.le_of_ble_eq_true rfl)
  rw [lg_entry_eq]
  generalize (lg_sl ([.ref h0, .int x1]) ++ List.replicate (10 - (lg_sl ([.ref h0, .int x1])).length) Slot.unset).toArray = ls at hl ⊢
  have hl : lv_has ls 10 [(0, .ref h0), (1, .int x1)] := hl
  have B_352 : ∀ (cs1 : RS) (u5 : Int32), m_find_b352 F cs1 u5 = some (cs9, r9) → ∀ (H : Heap) (locs : List Loc) (ls : Array Slot), va_P (dC, dI) vwCl (mW cB cI cJ cZ h0 a cs1) H → va_D A (mW cB cI cJ cZ h0 a cs1) → va_S A s.heap H locs → lv_has ls 10 [(5, .int u5)] → W p l e (headSpec (wsOf yX12_find cX12_find 10 (some .int)) ({ frames := 8, cells := 0, slots := 0, locals := 60 * (8) } : Room)).room s m ([.ref h0, .int x1] : List Value).toArray below meth c H locs 0 0 (MQ below (va_Qi (fun (x : Int32) (_ : Unit) => x = r9) (fun _ t_ => va_P (dC, dI) vwCl (mW cB cI cJ cZ h0 a cs9) t_.heap ∧ va_D A (mW cB cI cJ cZ h0 a cs9)) A) ([.ref h0, .int x1] : List Value).toArray s 0 0 A) (F0 m 352 ls []) := by
    intro cs1 u5 h H locs ls hP hD hS hl
    unfold m_find_b352 at h
    refine lv_iload hx hb dX12_find_352 (lv_at hl 0 rfl) ?_
    obtain ⟨e1, e2⟩ := Prod.mk.inj (Option.some.inj h)
    rw [e1] at hP hD
    exact W.iret (v := u5) hx hb hr (fun t_ ht hW => ⟨⟨u5, (), rfl, e2, by rw [ht]; exact hP, hD⟩, hS.F ht⟩) hS.2.2 dX12_find_354
  have B_316 : ∀ (cs1 : RS) (u2 : Int32) (u4 : Int32) (u5 : Int32), m_find_b316 F cs1 u2 u4 u5 = some (cs9, r9) → ∀ (H : Heap) (locs : List Loc) (ls : Array Slot), va_P (dC, dI) vwCl (mW cB cI cJ cZ h0 a cs1) H → va_D A (mW cB cI cJ cZ h0 a cs1) → va_S A s.heap H locs → lv_has ls 10 [(0, .ref h0), (2, .int u2), (4, .int u4), (5, .int u5)] → W p l e (headSpec (wsOf yX12_find cX12_find 10 (some .int)) ({ frames := 8, cells := 0, slots := 0, locals := 60 * (8) } : Room)).room s m ([.ref h0, .int x1] : List Value).toArray below meth c H locs 0 0 (MQ below (va_Qi (fun (x : Int32) (_ : Unit) => x = r9) (fun _ t_ => va_P (dC, dI) vwCl (mW cB cI cJ cZ h0 a cs9) t_.heap ∧ va_D A (mW cB cI cJ cZ h0 a cs9)) A) ([.ref h0, .int x1] : List Value).toArray s 0 0 A) (F0 m 316 ls []) := by
    intro cs1 u2 u4 u5 h H locs ls hP hD hS hl
    unfold m_find_b316 at h
    refine lv_iload hx hb dX12_find_316 (lv_at hl 2 rfl) ?_
    refine lv_if_ne (tgt := 335) hx hb dX12_find_318 (by decide) (fun c_1 => ?_) (fun c_1 => ?_)
    · skip
      replace h := (if_neg c_1).symm.trans h
      refine lv_iload hx hb dX12_find_335 (lv_at hl 2 rfl) ?_
      refine lv_iconst (v := 1) hx hb dX12_find_337 (by decide) ?_
      refine lv_icmp_le (tgt := 352) hx hb dX12_find_338 (by decide) (fun c_2 => ?_) (fun c_2 => ?_)
      · skip
        replace h := (if_pos c_2).symm.trans h
        exact B_352 cs1 u5 h _ _ _ hP hD hS (lv_sub hl [3] rfl)
      · skip
        replace h := (if_neg c_2).symm.trans h
        refine lv_aload_n hx hb dX12_find_341 rfl (lv_at hl 0 rfl) ?_
        refine lv_iconst (v := 3) hx hb dX12_find_342 (by decide) ?_
        refine lv_aload_n hx hb dX12_find_343 rfl (lv_at hl 0 rfl) ?_
        refine fg_15 hx hb hts hown hK hP dX12_find_344 ?_
        refine lv_iload_n hx hb dX12_find_347 rfl (lv_at hl 1 rfl) ?_
        obtain ⟨v_3, hv_3, h⟩ := ob h
        refine ag_15 hx hb hK hP hv_3 dX12_find_348 ?_
        obtain ⟨cs_4, hv_4, h⟩ := ob h
        refine calV (As := [.int 3, .int v_3]) hx hb hml hts hown hK hP hD hS hA hZ (s_tell l dC dI cB cI cJ cZ h0 a K V fz F cs1 3 v_3 cs_4 hv_4) (cw_tell hts (fr := 0) (Nat.le_of_ble_eq_true rfl) (Nat.le_of_ble_eq_true rfl)) rfl hl.1 (Nat.le_of_ble_eq_true rfl) ⟨Nat.zero_le _, Nat.zero_le _⟩ dX12_find_349 (fun H locs hP hD hS => ?_)
        exact B_352 cs_4 u5 h _ _ _ hP hD hS (lv_sub hl [3] rfl)
    · skip
      replace h := (if_pos c_1).symm.trans h
      refine lv_aload_n hx hb dX12_find_321 rfl (lv_at hl 0 rfl) ?_
      refine lv_iconst (v := 2) hx hb dX12_find_322 (by decide) ?_
      refine lv_aload_n hx hb dX12_find_323 rfl (lv_at hl 0 rfl) ?_
      refine fg_15 hx hb hts hown hK hP dX12_find_324 ?_
      refine lv_iload_n hx hb dX12_find_327 rfl (lv_at hl 1 rfl) ?_
      obtain ⟨v_5, hv_5, h⟩ := ob h
      refine ag_15 hx hb hK hP hv_5 dX12_find_328 ?_
      obtain ⟨cs_6, hv_6, h⟩ := ob h
      refine calV (As := [.int 2, .int v_5]) hx hb hml hts hown hK hP hD hS hA hZ (s_tell l dC dI cB cI cJ cZ h0 a K V fz F cs1 2 v_5 cs_6 hv_6) (cw_tell hts (fr := 0) (Nat.le_of_ble_eq_true rfl) (Nat.le_of_ble_eq_true rfl)) rfl hl.1 (Nat.le_of_ble_eq_true rfl) ⟨Nat.zero_le _, Nat.zero_le _⟩ dX12_find_329 (fun H locs hP hD hS => ?_)
      refine lv_goto (tgt := 352) hx hb dX12_find_332 (by decide) ?_
      exact B_352 cs_6 u5 h _ _ _ hP hD hS (lv_sub hl [3] rfl)
  have L_30 : ∀ (lf_30 : Nat), ∀ (cs1 : RS) (u1 : Int32) (u2 : Int32) (u3 : Int32) (u4 : Int32) (u5 : Int32) (u6 : Int32), m_find_L30 F lf_30 cs1 u1 u2 u3 u4 u5 u6 = some (cs9, r9) → ∀ (H : Heap) (locs : List Loc) (ls : Array Slot), va_P (dC, dI) vwCl (mW cB cI cJ cZ h0 a cs1) H → va_D A (mW cB cI cJ cZ h0 a cs1) → va_S A s.heap H locs → lv_has ls 10 [(0, .ref h0), (1, .int u1), (2, .int u2), (3, .int u3), (4, .int u4), (5, .int u5), (6, .int u6)] → W p l e (headSpec (wsOf yX12_find cX12_find 10 (some .int)) ({ frames := 8, cells := 0, slots := 0, locals := 60 * (8) } : Room)).room s m ([.ref h0, .int x1] : List Value).toArray below meth c H locs 0 0 (MQ below (va_Qi (fun (x : Int32) (_ : Unit) => x = r9) (fun _ t_ => va_P (dC, dI) vwCl (mW cB cI cJ cZ h0 a cs9) t_.heap ∧ va_D A (mW cB cI cJ cZ h0 a cs9)) A) ([.ref h0, .int x1] : List Value).toArray s 0 0 A) (F0 m 30 ls []) := by
    intro lf_30
    induction lf_30 with
    | zero => intro cs1 u1 u2 u3 u4 u5 u6 h; cases (show (none : Option (RS × Int32)) = _ from h)
    | succ lf_30 ih_30 =>
      have B_148 : ∀ (cs1 : RS) (u1 : Int32) (u2 : Int32) (u3 : Int32) (u4 : Int32) (u5 : Int32) (u6 : Int32), m_find_b148 F (m_find_L30 F lf_30) cs1 u1 u2 u3 u4 u5 u6 = some (cs9, r9) → ∀ (H : Heap) (locs : List Loc) (ls : Array Slot), va_P (dC, dI) vwCl (mW cB cI cJ cZ h0 a cs1) H → va_D A (mW cB cI cJ cZ h0 a cs1) → va_S A s.heap H locs → lv_has ls 10 [(0, .ref h0), (1, .int u1), (2, .int u2), (3, .int u3), (4, .int u4), (5, .int u5), (6, .int u6)] → W p l e (headSpec (wsOf yX12_find cX12_find 10 (some .int)) ({ frames := 8, cells := 0, slots := 0, locals := 60 * (8) } : Room)).room s m ([.ref h0, .int x1] : List Value).toArray below meth c H locs 0 0 (MQ below (va_Qi (fun (x : Int32) (_ : Unit) => x = r9) (fun _ t_ => va_P (dC, dI) vwCl (mW cB cI cJ cZ h0 a cs9) t_.heap ∧ va_D A (mW cB cI cJ cZ h0 a cs9)) A) ([.ref h0, .int x1] : List Value).toArray s 0 0 A) (F0 m 148 ls []) := by
        intro cs1 u1 u2 u3 u4 u5 u6 h H locs ls hP hD hS hl
        unfold m_find_b148 at h
        refine lv_iinc (v := u6 + 1) (lv' := [(6, .int (u6 + 1)), (0, .ref h0), (1, .int u1), (2, .int u2), (3, .int u3), (4, .int u4), (5, .int u5)]) hx hb dX12_find_148 hl (k := 6) rfl rfl (by decide) rfl (fun ls hl => ?_)
        refine lv_goto (tgt := 30) hx hb dX12_find_151 (by decide) ?_
        exact ih_30 cs1 u1 u2 u3 u4 u5 (u6 + 1) h _ _ _ hP hD hS (lv_sub hl [1, 2, 3, 4, 5, 6, 0] rfl)
      have L_85 : ∀ (lf_85 : Nat), ∀ (cs1 : RS) (u1 : Int32) (u2 : Int32) (u3 : Int32) (u4 : Int32) (u5 : Int32) (u6 : Int32) (u7 : Int32) (u8 : Int32) (u9 : Int32), m_find_L85 F (m_find_L30 F lf_30) lf_85 cs1 u1 u2 u3 u4 u5 u6 u7 u8 u9 = some (cs9, r9) → ∀ (H : Heap) (locs : List Loc) (ls : Array Slot), va_P (dC, dI) vwCl (mW cB cI cJ cZ h0 a cs1) H → va_D A (mW cB cI cJ cZ h0 a cs1) → va_S A s.heap H locs → lv_has ls 10 [(0, .ref h0), (1, .int u1), (2, .int u2), (3, .int u3), (4, .int u4), (5, .int u5), (6, .int u6), (7, .int u7), (8, .int u8), (9, .int u9)] → W p l e (headSpec (wsOf yX12_find cX12_find 10 (some .int)) ({ frames := 8, cells := 0, slots := 0, locals := 60 * (8) } : Room)).room s m ([.ref h0, .int x1] : List Value).toArray below meth c H locs 0 0 (MQ below (va_Qi (fun (x : Int32) (_ : Unit) => x = r9) (fun _ t_ => va_P (dC, dI) vwCl (mW cB cI cJ cZ h0 a cs9) t_.heap ∧ va_D A (mW cB cI cJ cZ h0 a cs9)) A) ([.ref h0, .int x1] : List Value).toArray s 0 0 A) (F0 m 85 ls []) := by
        intro lf_85
        induction lf_85 with
        | zero => intro cs1 u1 u2 u3 u4 u5 u6 u7 u8 u9 h; cases (show (none : Option (RS × Int32)) = _ from h)
        | succ lf_85 ih_85 =>
          have B_142 : ∀ (cs1 : RS) (u1 : Int32) (u2 : Int32) (u3 : Int32) (u4 : Int32) (u5 : Int32) (u6 : Int32) (u7 : Int32) (u8 : Int32) (u9 : Int32), m_find_b142 F (m_find_L30 F lf_30) (m_find_L85 F (m_find_L30 F lf_30) lf_85) cs1 u1 u2 u3 u4 u5 u6 u7 u8 u9 = some (cs9, r9) → ∀ (H : Heap) (locs : List Loc) (ls : Array Slot), va_P (dC, dI) vwCl (mW cB cI cJ cZ h0 a cs1) H → va_D A (mW cB cI cJ cZ h0 a cs1) → va_S A s.heap H locs → lv_has ls 10 [(0, .ref h0), (1, .int u1), (2, .int u2), (3, .int u3), (4, .int u4), (5, .int u5), (6, .int u6), (7, .int u7), (8, .int u8), (9, .int u9)] → W p l e (headSpec (wsOf yX12_find cX12_find 10 (some .int)) ({ frames := 8, cells := 0, slots := 0, locals := 60 * (8) } : Room)).room s m ([.ref h0, .int x1] : List Value).toArray below meth c H locs 0 0 (MQ below (va_Qi (fun (x : Int32) (_ : Unit) => x = r9) (fun _ t_ => va_P (dC, dI) vwCl (mW cB cI cJ cZ h0 a cs9) t_.heap ∧ va_D A (mW cB cI cJ cZ h0 a cs9)) A) ([.ref h0, .int x1] : List Value).toArray s 0 0 A) (F0 m 142 ls []) := by
            intro cs1 u1 u2 u3 u4 u5 u6 u7 u8 u9 h H locs ls hP hD hS hl
            unfold m_find_b142 at h
            refine lv_iinc (v := u9 + 1) (lv' := [(9, .int (u9 + 1)), (0, .ref h0), (1, .int u1), (2, .int u2), (3, .int u3), (4, .int u4), (5, .int u5), (6, .int u6), (7, .int u7), (8, .int u8)]) hx hb dX12_find_142 hl (k := 9) rfl rfl (by decide) rfl (fun ls hl => ?_)
            refine lv_goto (tgt := 85) hx hb dX12_find_145 (by decide) ?_
            exact ih_85 cs1 u1 u2 u3 u4 u5 u6 u7 u8 (u9 + 1) h _ _ _ hP hD hS (lv_sub hl [1, 2, 3, 4, 5, 6, 7, 8, 9, 0] rfl)
          intro cs1 u1 u2 u3 u4 u5 u6 u7 u8 u9 h H locs ls hP hD hS hl
          rw [m_find_L85] at h
          refine lv_iload hx hb dX12_find_85 (lv_at hl 9 rfl) ?_
          refine lv_aload_n hx hb dX12_find_87 rfl (lv_at hl 0 rfl) ?_
          refine lv_iload hx hb dX12_find_88 (lv_at hl 7 rfl) ?_
          obtain ⟨v_7, hv_7, h⟩ := ob h
          refine calI (As := [.int u7]) hx hb hml hts hown hK hP hD hS hA hZ (s_columnsOf l dC dI cB cI cJ cZ h0 a K V fz F cs1 u7 v_7 hv_7) (cw_columnsOf hts (fr := 0) (Nat.le_of_ble_eq_true rfl) (Nat.le_of_ble_eq_true rfl)) rfl hl.1 (Nat.le_of_ble_eq_true rfl) ⟨Nat.zero_le _, Nat.zero_le _⟩ dX12_find_90 (fun H locs hP hD hS => ?_)
          refine lv_icmp_ge (tgt := 148) hx hb dX12_find_93 (by decide) (fun c_8 => ?_) (fun c_8 => ?_)
          · skip
            replace h := (if_pos c_8).symm.trans h
            exact B_148 cs1 u1 u2 u3 u4 u5 u6 h _ _ _ hP hD hS (lv_sub hl [0, 1, 2, 3, 4, 5, 6] rfl)
          · skip
            replace h := (if_neg c_8).symm.trans h
            refine lv_aload_n hx hb dX12_find_96 rfl (lv_at hl 0 rfl) ?_
            refine lv_iload hx hb dX12_find_97 (lv_at hl 8 rfl) ?_
            refine lv_aload_n hx hb dX12_find_99 rfl (lv_at hl 0 rfl) ?_
            refine lv_iload hx hb dX12_find_100 (lv_at hl 7 rfl) ?_
            refine lv_iload hx hb dX12_find_102 (lv_at hl 9 rfl) ?_
            obtain ⟨v_9, hv_9, h⟩ := ob h
            refine calI (As := [.int u7, .int u9]) hx hb hml hts hown hK hP hD hS hA hZ (s_nameOf l dC dI cB cI cJ cZ h0 a K V fz F cs1 u7 u9 v_9 hv_9) (cw_nameOf hts (fr := 0) (Nat.le_of_ble_eq_true rfl) (Nat.le_of_ble_eq_true rfl)) rfl hl.1 (Nat.le_of_ble_eq_true rfl) ⟨Nat.zero_le _, Nat.zero_le _⟩ dX12_find_104 (fun H locs hP hD hS => ?_)
            obtain ⟨v_10, hv_10, h⟩ := ob h
            refine calI (As := [.int u8, .int v_9]) hx hb hml hts hown hK hP hD hS hA hZ (s_isNamed l dC dI cB cI cJ cZ h0 a K V fz F cs1 u8 v_9 v_10 hv_10) (cw_isNamed hts (fr := 7) (Nat.le_of_ble_eq_true rfl) (Nat.le_of_ble_eq_true rfl)) rfl hl.1 (Nat.le_of_ble_eq_true rfl) ⟨Nat.zero_le _, Nat.zero_le _⟩ dX12_find_107 (fun H locs hP hD hS => ?_)
            refine lv_if_eq (tgt := 142) hx hb dX12_find_110 (by decide) (fun c_11 => ?_) (fun c_11 => ?_)
            · skip
              replace h := (if_pos c_11).symm.trans h
              exact B_142 cs1 u1 u2 u3 u4 u5 u6 u7 u8 u9 h _ _ _ hP hD hS (lv_sub hl [0, 1, 2, 3, 4, 5, 6, 7, 8, 9] rfl)
            · skip
              replace h := (if_neg c_11).symm.trans h
              refine lv_iinc (v := u4 + 1) (lv' := [(4, .int (u4 + 1)), (0, .ref h0), (1, .int u1), (2, .int u2), (3, .int u3), (5, .int u5), (6, .int u6), (7, .int u7), (8, .int u8), (9, .int u9)]) hx hb dX12_find_113 hl (k := 4) rfl rfl (by decide) rfl (fun ls hl => ?_)
              refine lv_aload_n hx hb dX12_find_116 rfl (lv_at hl 1 rfl) ?_
              refine fg_33 hx hb hts hown hK hP dX12_find_117 ?_
              refine lv_iload_n hx hb dX12_find_120 rfl (lv_at hl 2 rfl) ?_
              refine lv_aload_n hx hb dX12_find_121 rfl (lv_at hl 1 rfl) ?_
              refine fg_79 hx hb hts hown hK hP dX12_find_122 ?_
              refine lv_iload hx hb dX12_find_125 (lv_at hl 7 rfl) ?_
              obtain ⟨v_12, hv_12, h⟩ := ob h
              refine ag_79 hx hb hK hP hv_12 dX12_find_127 ?_
              refine lv_iload hx hb dX12_find_128 (lv_at hl 9 rfl) ?_
              refine lv_iadd hx hb dX12_find_130 ?_
              obtain ⟨cs_13, hv_13, h⟩ := ob h
              refine ap_33 hx hb hK hP hD hS hv_13 dX12_find_131 (fun H locs hP hD hS => ?_)
              refine lv_aload_n hx hb dX12_find_132 rfl (lv_at hl 1 rfl) ?_
              refine lv_iload hx hb dX12_find_133 (lv_at hl 7 rfl) ?_
              refine lv_iload hx hb dX12_find_135 (lv_at hl 9 rfl) ?_
              obtain ⟨v_14, hv_14, h⟩ := ob h
              refine calI (As := [.int u7, .int u9]) hx hb hml hts hown hK hP hD hS hA hZ (s_typeOf l dC dI cB cI cJ cZ h0 a K V fz F cs_13 u7 u9 v_14 hv_14) (cw_typeOf hts (fr := 0) (Nat.le_of_ble_eq_true rfl) (Nat.le_of_ble_eq_true rfl)) rfl hl.1 (Nat.le_of_ble_eq_true rfl) ⟨Nat.zero_le _, Nat.zero_le _⟩ dX12_find_137 (fun H locs hP hD hS => ?_)
              refine lv_istore (lv' := [(5, .int v_14), (4, .int (u4 + 1)), (0, .ref h0), (1, .int u1), (2, .int u2), (3, .int u3), (6, .int u6), (7, .int u7), (8, .int u8), (9, .int u9)]) hx hb dX12_find_140 hl (by decide) rfl (fun ls hl => ?_)
              exact B_142 cs_13 u1 u2 u3 (u4 + 1) v_14 u6 u7 u8 u9 h _ _ _ hP hD hS (lv_sub hl [2, 3, 4, 5, 1, 0, 6, 7, 8, 9] rfl)
      have B_80 : ∀ (cs1 : RS) (u1 : Int32) (u2 : Int32) (u3 : Int32) (u4 : Int32) (u5 : Int32) (u6 : Int32) (u7 : Int32) (y0 : Int32), m_find_b80 F (m_find_L30 F lf_30) cs1 u1 u2 u3 u4 u5 u6 u7 y0 = some (cs9, r9) → ∀ (H : Heap) (locs : List Loc) (ls : Array Slot), va_P (dC, dI) vwCl (mW cB cI cJ cZ h0 a cs1) H → va_D A (mW cB cI cJ cZ h0 a cs1) → va_S A s.heap H locs → lv_has ls 10 [(0, .ref h0), (1, .int u1), (2, .int u2), (3, .int u3), (4, .int u4), (5, .int u5), (6, .int u6), (7, .int u7)] → W p l e (headSpec (wsOf yX12_find cX12_find 10 (some .int)) ({ frames := 8, cells := 0, slots := 0, locals := 60 * (8) } : Room)).room s m ([.ref h0, .int x1] : List Value).toArray below meth c H locs 0 0 (MQ below (va_Qi (fun (x : Int32) (_ : Unit) => x = r9) (fun _ t_ => va_P (dC, dI) vwCl (mW cB cI cJ cZ h0 a cs9) t_.heap ∧ va_D A (mW cB cI cJ cZ h0 a cs9)) A) ([.ref h0, .int x1] : List Value).toArray s 0 0 A) (F0 m 80 ls [.int y0]) := by
        intro cs1 u1 u2 u3 u4 u5 u6 u7 y0 h H locs ls hP hD hS hl
        unfold m_find_b80 at h
        refine lv_istore (lv' := [(8, .int y0), (0, .ref h0), (1, .int u1), (2, .int u2), (3, .int u3), (4, .int u4), (5, .int u5), (6, .int u6), (7, .int u7)]) hx hb dX12_find_80 hl (by decide) rfl (fun ls hl => ?_)
        refine lv_iconst (v := 0) hx hb dX12_find_82 (by decide) ?_
        refine lv_istore (lv' := [(9, .int 0), (8, .int y0), (0, .ref h0), (1, .int u1), (2, .int u2), (3, .int u3), (4, .int u4), (5, .int u5), (6, .int u6), (7, .int u7)]) hx hb dX12_find_83 hl (by decide) rfl (fun ls hl => ?_)
        exact L_85 F cs1 u1 u2 u3 u4 u5 u6 u7 y0 0 h _ _ _ hP hD hS (lv_sub hl [2, 3, 4, 5, 6, 7, 8, 9, 1, 0] rfl)
      have B_70 : ∀ (cs1 : RS) (u1 : Int32) (u2 : Int32) (u3 : Int32) (u4 : Int32) (u5 : Int32) (u6 : Int32) (u7 : Int32), m_find_b70 F (m_find_L30 F lf_30) cs1 u1 u2 u3 u4 u5 u6 u7 = some (cs9, r9) → ∀ (H : Heap) (locs : List Loc) (ls : Array Slot), va_P (dC, dI) vwCl (mW cB cI cJ cZ h0 a cs1) H → va_D A (mW cB cI cJ cZ h0 a cs1) → va_S A s.heap H locs → lv_has ls 10 [(0, .ref h0), (1, .int u1), (2, .int u2), (3, .int u3), (4, .int u4), (5, .int u5), (6, .int u6), (7, .int u7)] → W p l e (headSpec (wsOf yX12_find cX12_find 10 (some .int)) ({ frames := 8, cells := 0, slots := 0, locals := 60 * (8) } : Room)).room s m ([.ref h0, .int x1] : List Value).toArray below meth c H locs 0 0 (MQ below (va_Qi (fun (x : Int32) (_ : Unit) => x = r9) (fun _ t_ => va_P (dC, dI) vwCl (mW cB cI cJ cZ h0 a cs9) t_.heap ∧ va_D A (mW cB cI cJ cZ h0 a cs9)) A) ([.ref h0, .int x1] : List Value).toArray s 0 0 A) (F0 m 70 ls []) := by
        intro cs1 u1 u2 u3 u4 u5 u6 u7 h H locs ls hP hD hS hl
        unfold m_find_b70 at h
        refine lv_iload_n hx hb dX12_find_70 rfl (lv_at hl 3 rfl) ?_
        refine lv_iconst (v := (-1)) hx hb dX12_find_71 (by decide) ?_
        refine lv_icmp_ne (tgt := 79) hx hb dX12_find_72 (by decide) (fun c_15 => ?_) (fun c_15 => ?_)
        · skip
          replace h := (if_neg c_15).symm.trans h
          refine lv_iload_n hx hb dX12_find_79 rfl (lv_at hl 3 rfl) ?_
          exact B_80 cs1 u1 u2 u3 u4 u5 u6 u7 u3 h _ _ _ hP hD hS (lv_sub hl [0, 1, 2, 3, 4, 5, 6, 7] rfl)
        · skip
          replace h := (if_pos c_15).symm.trans h
          refine lv_iload_n hx hb dX12_find_75 rfl (lv_at hl 2 rfl) ?_
          refine lv_goto (tgt := 80) hx hb dX12_find_76 (by decide) ?_
          exact B_80 cs1 u1 u2 u3 u4 u5 u6 u7 u2 h _ _ _ hP hD hS (lv_sub hl [0, 1, 2, 3, 4, 5, 6, 7] rfl)
      intro cs1 u1 u2 u3 u4 u5 u6 h H locs ls hP hD hS hl
      rw [m_find_L30] at h
      refine lv_iload hx hb dX12_find_30 (lv_at hl 6 rfl) ?_
      refine lv_aload_n hx hb dX12_find_32 rfl (lv_at hl 0 rfl) ?_
      refine fg_78 hx hb hts hown hK hP dX12_find_33 ?_
      refine lv_icmp_ge (tgt := 154) hx hb dX12_find_36 (by decide) (fun c_16 => ?_) (fun c_16 => ?_)
      · skip
        replace h := (if_pos c_16).symm.trans h
        refine lv_goto (tgt := 316) hx hb dX12_find_154 (by decide) ?_
        exact B_316 cs1 u2 u4 u5 h _ _ _ hP hD hS (lv_sub hl [0, 2, 4, 5] rfl)
      · skip
        replace h := (if_neg c_16).symm.trans h
        refine lv_iconst (v := 3) hx hb dX12_find_39 (by decide) ?_
        refine lv_aload_n hx hb dX12_find_40 rfl (lv_at hl 0 rfl) ?_
        refine fg_77 hx hb hts hown hK hP dX12_find_41 ?_
        refine lv_imul hx hb dX12_find_44 ?_
        refine lv_iload hx hb dX12_find_45 (lv_at hl 6 rfl) ?_
        refine lv_iadd hx hb dX12_find_47 ?_
        refine lv_istore (lv' := [(7, .int ((3 * (cs1.1 77)) + u6)), (0, .ref h0), (1, .int u1), (2, .int u2), (3, .int u3), (4, .int u4), (5, .int u5), (6, .int u6)]) hx hb dX12_find_48 hl (by decide) rfl (fun ls hl => ?_)
        refine lv_iload_n hx hb dX12_find_50 rfl (lv_at hl 4 rfl) ?_
        refine lv_iconst (v := (-1)) hx hb dX12_find_51 (by decide) ?_
        refine lv_icmp_eq (tgt := 70) hx hb dX12_find_52 (by decide) (fun c_17 => ?_) (fun c_17 => ?_)
        · skip
          replace h := (if_pos c_17).symm.trans h
          exact B_70 cs1 u1 u2 u3 u4 u5 u6 ((3 * (cs1.1 77)) + u6) h _ _ _ hP hD hS (lv_sub hl [1, 2, 3, 4, 5, 6, 7, 0] rfl)
        · skip
          replace h := (if_neg c_17).symm.trans h
          refine lv_aload_n hx hb dX12_find_55 rfl (lv_at hl 1 rfl) ?_
          refine lv_iload_n hx hb dX12_find_56 rfl (lv_at hl 3 rfl) ?_
          refine lv_aload_n hx hb dX12_find_57 rfl (lv_at hl 1 rfl) ?_
          refine fg_55 hx hb hts hown hK hP dX12_find_58 ?_
          refine lv_iload hx hb dX12_find_61 (lv_at hl 0 rfl) ?_
          obtain ⟨v_18, hv_18, h⟩ := ob h
          refine ag_55 hx hb hK hP hv_18 dX12_find_63 ?_
          obtain ⟨v_19, hv_19, h⟩ := ob h
          refine calI (As := [.int u2, .int v_18]) hx hb hml hts hown hK hP hD hS hA hZ (s_isSame l dC dI cB cI cJ cZ h0 a K V fz F cs1 u2 v_18 v_19 hv_19) (cw_isSame hts (fr := 0) (Nat.le_of_ble_eq_true rfl) (Nat.le_of_ble_eq_true rfl)) rfl hl.1 (Nat.le_of_ble_eq_true rfl) ⟨Nat.zero_le _, Nat.zero_le _⟩ dX12_find_64 (fun H locs hP hD hS => ?_)
          refine lv_if_eq (tgt := 148) hx hb dX12_find_67 (by decide) (fun c_20 => ?_) (fun c_20 => ?_)
          · skip
            replace h := (if_pos c_20).symm.trans h
            exact B_148 cs1 u1 u2 u3 u4 u5 u6 h _ _ _ hP hD hS (lv_sub hl [1, 2, 3, 4, 5, 6, 7] rfl)
          · skip
            replace h := (if_neg c_20).symm.trans h
            exact B_70 cs1 u1 u2 u3 u4 u5 u6 ((3 * (cs1.1 77)) + u6) h _ _ _ hP hD hS (lv_sub hl [1, 2, 3, 4, 5, 6, 7, 0] rfl)
  have L_198 : ∀ (lf_198 : Nat), ∀ (cs1 : RS) (u1 : Int32) (u2 : Int32) (u4 : Int32) (u5 : Int32) (u6 : Int32) (u7 : Int32) (u8 : Int32), m_find_L198 F lf_198 cs1 u1 u2 u4 u5 u6 u7 u8 = some (cs9, r9) → ∀ (H : Heap) (locs : List Loc) (ls : Array Slot), va_P (dC, dI) vwCl (mW cB cI cJ cZ h0 a cs1) H → va_D A (mW cB cI cJ cZ h0 a cs1) → va_S A s.heap H locs → lv_has ls 10 [(0, .ref h0), (1, .int u1), (2, .int u2), (4, .int u4), (5, .int u5), (6, .int u6), (7, .int u7), (8, .int u8)] → W p l e (headSpec (wsOf yX12_find cX12_find 10 (some .int)) ({ frames := 8, cells := 0, slots := 0, locals := 60 * (8) } : Room)).room s m ([.ref h0, .int x1] : List Value).toArray below meth c H locs 0 0 (MQ below (va_Qi (fun (x : Int32) (_ : Unit) => x = r9) (fun _ t_ => va_P (dC, dI) vwCl (mW cB cI cJ cZ h0 a cs9) t_.heap ∧ va_D A (mW cB cI cJ cZ h0 a cs9)) A) ([.ref h0, .int x1] : List Value).toArray s 0 0 A) (F0 m 198 ls []) := by
    intro lf_198
    induction lf_198 with
    | zero => intro cs1 u1 u2 u4 u5 u6 u7 u8 h; cases (show (none : Option (RS × Int32)) = _ from h)
    | succ lf_198 ih_198 =>
      have B_310 : ∀ (cs1 : RS) (u1 : Int32) (u2 : Int32) (u4 : Int32) (u5 : Int32) (u6 : Int32) (u7 : Int32) (u8 : Int32), m_find_b310 F (m_find_L198 F lf_198) cs1 u1 u2 u4 u5 u6 u7 u8 = some (cs9, r9) → ∀ (H : Heap) (locs : List Loc) (ls : Array Slot), va_P (dC, dI) vwCl (mW cB cI cJ cZ h0 a cs1) H → va_D A (mW cB cI cJ cZ h0 a cs1) → va_S A s.heap H locs → lv_has ls 10 [(0, .ref h0), (1, .int u1), (2, .int u2), (4, .int u4), (5, .int u5), (6, .int u6), (7, .int u7), (8, .int u8)] → W p l e (headSpec (wsOf yX12_find cX12_find 10 (some .int)) ({ frames := 8, cells := 0, slots := 0, locals := 60 * (8) } : Room)).room s m ([.ref h0, .int x1] : List Value).toArray below meth c H locs 0 0 (MQ below (va_Qi (fun (x : Int32) (_ : Unit) => x = r9) (fun _ t_ => va_P (dC, dI) vwCl (mW cB cI cJ cZ h0 a cs9) t_.heap ∧ va_D A (mW cB cI cJ cZ h0 a cs9)) A) ([.ref h0, .int x1] : List Value).toArray s 0 0 A) (F0 m 310 ls []) := by
        intro cs1 u1 u2 u4 u5 u6 u7 u8 h H locs ls hP hD hS hl
        unfold m_find_b310 at h
        refine lv_iinc (v := u8 + 1) (lv' := [(8, .int (u8 + 1)), (0, .ref h0), (1, .int u1), (2, .int u2), (4, .int u4), (5, .int u5), (6, .int u6), (7, .int u7)]) hx hb dX12_find_310 hl (k := 7) rfl rfl (by decide) rfl (fun ls hl => ?_)
        refine lv_goto (tgt := 198) hx hb dX12_find_313 (by decide) ?_
        exact ih_198 cs1 u1 u2 u4 u5 u6 u7 (u8 + 1) h _ _ _ hP hD hS (lv_sub hl [1, 2, 3, 4, 5, 6, 7, 0] rfl)
      have B_308 : ∀ (cs1 : RS) (u1 : Int32) (u2 : Int32) (u4 : Int32) (u6 : Int32) (u7 : Int32) (u8 : Int32) (y0 : Int32), m_find_b308 F (m_find_L198 F lf_198) cs1 u1 u2 u4 u6 u7 u8 y0 = some (cs9, r9) → ∀ (H : Heap) (locs : List Loc) (ls : Array Slot), va_P (dC, dI) vwCl (mW cB cI cJ cZ h0 a cs1) H → va_D A (mW cB cI cJ cZ h0 a cs1) → va_S A s.heap H locs → lv_has ls 10 [(0, .ref h0), (1, .int u1), (2, .int u2), (4, .int u4), (6, .int u6), (7, .int u7), (8, .int u8)] → W p l e (headSpec (wsOf yX12_find cX12_find 10 (some .int)) ({ frames := 8, cells := 0, slots := 0, locals := 60 * (8) } : Room)).room s m ([.ref h0, .int x1] : List Value).toArray below meth c H locs 0 0 (MQ below (va_Qi (fun (x : Int32) (_ : Unit) => x = r9) (fun _ t_ => va_P (dC, dI) vwCl (mW cB cI cJ cZ h0 a cs9) t_.heap ∧ va_D A (mW cB cI cJ cZ h0 a cs9)) A) ([.ref h0, .int x1] : List Value).toArray s 0 0 A) (F0 m 308 ls [.int y0]) := by
        intro cs1 u1 u2 u4 u6 u7 u8 y0 h H locs ls hP hD hS hl
        unfold m_find_b308 at h
        refine lv_istore (lv' := [(5, .int y0), (0, .ref h0), (1, .int u1), (2, .int u2), (4, .int u4), (6, .int u6), (7, .int u7), (8, .int u8)]) hx hb dX12_find_308 hl (by decide) rfl (fun ls hl => ?_)
        exact B_310 cs1 u1 u2 u4 y0 u6 u7 u8 h _ _ _ hP hD hS (lv_sub hl [1, 2, 3, 4, 0, 5, 6, 7] rfl)
      have B_242 : ∀ (cs1 : RS) (u1 : Int32) (u2 : Int32) (u4 : Int32) (u5 : Int32) (u6 : Int32) (u7 : Int32) (u8 : Int32) (y0 : Int32), m_find_b242 F (m_find_L198 F lf_198) cs1 u1 u2 u4 u5 u6 u7 u8 y0 = some (cs9, r9) → ∀ (H : Heap) (locs : List Loc) (ls : Array Slot), va_P (dC, dI) vwCl (mW cB cI cJ cZ h0 a cs1) H → va_D A (mW cB cI cJ cZ h0 a cs1) → va_S A s.heap H locs → lv_has ls 10 [(0, .ref h0), (1, .int u1), (2, .int u2), (4, .int u4), (5, .int u5), (6, .int u6), (7, .int u7), (8, .int u8)] → W p l e (headSpec (wsOf yX12_find cX12_find 10 (some .int)) ({ frames := 8, cells := 0, slots := 0, locals := 60 * (8) } : Room)).room s m ([.ref h0, .int x1] : List Value).toArray below meth c H locs 0 0 (MQ below (va_Qi (fun (x : Int32) (_ : Unit) => x = r9) (fun _ t_ => va_P (dC, dI) vwCl (mW cB cI cJ cZ h0 a cs9) t_.heap ∧ va_D A (mW cB cI cJ cZ h0 a cs9)) A) ([.ref h0, .int x1] : List Value).toArray s 0 0 A) (F0 m 242 ls [.int y0]) := by
        intro cs1 u1 u2 u4 u5 u6 u7 u8 y0 h H locs ls hP hD hS hl
        unfold m_find_b242 at h
        refine lv_istore (lv' := [(9, .int y0), (0, .ref h0), (1, .int u1), (2, .int u2), (4, .int u4), (5, .int u5), (6, .int u6), (7, .int u7), (8, .int u8)]) hx hb dX12_find_242 hl (by decide) rfl (fun ls hl => ?_)
        refine lv_iload hx hb dX12_find_244 (lv_at hl 0 rfl) ?_
        refine lv_iconst (v := (-1)) hx hb dX12_find_246 (by decide) ?_
        refine lv_icmp_eq (tgt := 310) hx hb dX12_find_247 (by decide) (fun c_21 => ?_) (fun c_21 => ?_)
        · skip
          replace h := (if_pos c_21).symm.trans h
          exact B_310 cs1 u1 u2 u4 u5 u6 u7 u8 h _ _ _ hP hD hS (lv_sub hl [1, 2, 3, 4, 5, 6, 7, 8] rfl)
        · skip
          replace h := (if_neg c_21).symm.trans h
          refine lv_aload_n hx hb dX12_find_250 rfl (lv_at hl 1 rfl) ?_
          refine lv_iload_n hx hb dX12_find_251 rfl (lv_at hl 3 rfl) ?_
          refine lv_iload hx hb dX12_find_252 (lv_at hl 0 rfl) ?_
          obtain ⟨v_22, hv_22, h⟩ := ob h
          refine calI (As := [.int u2, .int y0]) hx hb hml hts hown hK hP hD hS hA hZ (s_isSame l dC dI cB cI cJ cZ h0 a K V fz F cs1 u2 y0 v_22 hv_22) (cw_isSame hts (fr := 0) (Nat.le_of_ble_eq_true rfl) (Nat.le_of_ble_eq_true rfl)) rfl hl.1 (Nat.le_of_ble_eq_true rfl) ⟨Nat.zero_le _, Nat.zero_le _⟩ dX12_find_254 (fun H locs hP hD hS => ?_)
          refine lv_if_eq (tgt := 310) hx hb dX12_find_257 (by decide) (fun c_23 => ?_) (fun c_23 => ?_)
          · skip
            replace h := (if_pos c_23).symm.trans h
            exact B_310 cs1 u1 u2 u4 u5 u6 u7 u8 h _ _ _ hP hD hS (lv_sub hl [1, 2, 3, 4, 5, 6, 7, 8] rfl)
          · skip
            replace h := (if_neg c_23).symm.trans h
            refine lv_iinc (v := u4 + 1) (lv' := [(4, .int (u4 + 1)), (9, .int y0), (0, .ref h0), (1, .int u1), (2, .int u2), (5, .int u5), (6, .int u6), (7, .int u7), (8, .int u8)]) hx hb dX12_find_260 hl (k := 4) rfl rfl (by decide) rfl (fun ls hl => ?_)
            refine lv_aload_n hx hb dX12_find_263 rfl (lv_at hl 2 rfl) ?_
            refine fg_33 hx hb hts hown hK hP dX12_find_264 ?_
            refine lv_iload_n hx hb dX12_find_267 rfl (lv_at hl 3 rfl) ?_
            refine lv_iload hx hb dX12_find_268 (lv_at hl 8 rfl) ?_
            obtain ⟨cs_24, hv_24, h⟩ := ob h
            refine ap_33 hx hb hK hP hD hS hv_24 dX12_find_270 (fun H locs hP hD hS => ?_)
            refine lv_aload_n hx hb dX12_find_271 rfl (lv_at hl 2 rfl) ?_
            refine fg_76 hx hb hts hown hK hP dX12_find_272 ?_
            refine lv_iconst (v := 1) hx hb dX12_find_275 (by decide) ?_
            refine lv_icmp_ne (tgt := 295) hx hb dX12_find_276 (by decide) (fun c_25 => ?_) (fun c_25 => ?_)
            · skip
              replace h := (if_neg c_25).symm.trans h
              refine lv_aload_n hx hb dX12_find_295 rfl (lv_at hl 2 rfl) ?_
              refine fg_46 hx hb hts hown hK hP dX12_find_296 ?_
              refine lv_bipush (v := 8) hx hb dX12_find_299 (by decide) ?_
              refine lv_iload hx hb dX12_find_301 (lv_at hl 6 rfl) ?_
              refine lv_imul hx hb dX12_find_303 ?_
              refine lv_iload hx hb dX12_find_304 (lv_at hl 8 rfl) ?_
              refine lv_iadd hx hb dX12_find_306 ?_
              obtain ⟨v_26, hv_26, h⟩ := ob h
              refine ag_46 hx hb hK hP hv_26 dX12_find_307 ?_
              exact B_308 cs_24 u1 u2 (u4 + 1) u6 u7 u8 v_26 h _ _ _ hP hD hS (lv_sub hl [2, 3, 4, 0, 6, 7, 8] rfl)
            · skip
              replace h := (if_pos c_25).symm.trans h
              refine lv_aload_n hx hb dX12_find_279 rfl (lv_at hl 2 rfl) ?_
              refine fg_80 hx hb hts hown hK hP dX12_find_280 ?_
              refine lv_bipush (v := 8) hx hb dX12_find_283 (by decide) ?_
              refine lv_iload hx hb dX12_find_285 (lv_at hl 6 rfl) ?_
              refine lv_imul hx hb dX12_find_287 ?_
              refine lv_iload hx hb dX12_find_288 (lv_at hl 8 rfl) ?_
              refine lv_iadd hx hb dX12_find_290 ?_
              obtain ⟨v_27, hv_27, h⟩ := ob h
              refine ag_80 hx hb hK hP hv_27 dX12_find_291 ?_
              refine lv_goto (tgt := 308) hx hb dX12_find_292 (by decide) ?_
              exact B_308 cs_24 u1 u2 (u4 + 1) u6 u7 u8 v_27 h _ _ _ hP hD hS (lv_sub hl [2, 3, 4, 0, 6, 7, 8] rfl)
      intro cs1 u1 u2 u4 u5 u6 u7 u8 h H locs ls hP hD hS hl
      rw [m_find_L198] at h
      refine lv_iload hx hb dX12_find_198 (lv_at hl 7 rfl) ?_
      refine lv_iload hx hb dX12_find_200 (lv_at hl 6 rfl) ?_
      refine lv_icmp_ge (tgt := 316) hx hb dX12_find_202 (by decide) (fun c_28 => ?_) (fun c_28 => ?_)
      · skip
        replace h := (if_pos c_28).symm.trans h
        exact B_316 cs1 u2 u4 u5 h _ _ _ hP hD hS (lv_sub hl [0, 2, 3, 4] rfl)
      · skip
        replace h := (if_neg c_28).symm.trans h
        refine lv_aload_n hx hb dX12_find_205 rfl (lv_at hl 0 rfl) ?_
        refine fg_76 hx hb hts hown hK hP dX12_find_206 ?_
        refine lv_iconst (v := 1) hx hb dX12_find_209 (by decide) ?_
        refine lv_icmp_ne (tgt := 229) hx hb dX12_find_210 (by decide) (fun c_29 => ?_) (fun c_29 => ?_)
        · skip
          replace h := (if_neg c_29).symm.trans h
          refine lv_aload_n hx hb dX12_find_229 rfl (lv_at hl 0 rfl) ?_
          refine fg_45 hx hb hts hown hK hP dX12_find_230 ?_
          refine lv_bipush (v := 8) hx hb dX12_find_233 (by decide) ?_
          refine lv_iload hx hb dX12_find_235 (lv_at hl 5 rfl) ?_
          refine lv_imul hx hb dX12_find_237 ?_
          refine lv_iload hx hb dX12_find_238 (lv_at hl 7 rfl) ?_
          refine lv_iadd hx hb dX12_find_240 ?_
          obtain ⟨v_30, hv_30, h⟩ := ob h
          refine ag_45 hx hb hK hP hv_30 dX12_find_241 ?_
          exact B_242 cs1 u1 u2 u4 u5 u6 u7 u8 v_30 h _ _ _ hP hD hS (lv_sub hl [0, 1, 2, 3, 4, 5, 6, 7] rfl)
        · skip
          replace h := (if_pos c_29).symm.trans h
          refine lv_aload_n hx hb dX12_find_213 rfl (lv_at hl 0 rfl) ?_
          refine fg_48 hx hb hts hown hK hP dX12_find_214 ?_
          refine lv_bipush (v := 8) hx hb dX12_find_217 (by decide) ?_
          refine lv_iload hx hb dX12_find_219 (lv_at hl 5 rfl) ?_
          refine lv_imul hx hb dX12_find_221 ?_
          refine lv_iload hx hb dX12_find_222 (lv_at hl 7 rfl) ?_
          refine lv_iadd hx hb dX12_find_224 ?_
          obtain ⟨v_31, hv_31, h⟩ := ob h
          refine ag_48 hx hb hK hP hv_31 dX12_find_225 ?_
          refine lv_goto (tgt := 242) hx hb dX12_find_226 (by decide) ?_
          exact B_242 cs1 u1 u2 u4 u5 u6 u7 u8 v_31 h _ _ _ hP hD hS (lv_sub hl [0, 1, 2, 3, 4, 5, 6, 7] rfl)
  have B_193 : ∀ (cs1 : RS) (u1 : Int32) (u2 : Int32) (u4 : Int32) (u5 : Int32) (u6 : Int32) (y0 : Int32), m_find_b193 F cs1 u1 u2 u4 u5 u6 y0 = some (cs9, r9) → ∀ (H : Heap) (locs : List Loc) (ls : Array Slot), va_P (dC, dI) vwCl (mW cB cI cJ cZ h0 a cs1) H → va_D A (mW cB cI cJ cZ h0 a cs1) → va_S A s.heap H locs → lv_has ls 10 [(0, .ref h0), (1, .int u1), (2, .int u2), (4, .int u4), (5, .int u5), (6, .int u6)] → W p l e (headSpec (wsOf yX12_find cX12_find 10 (some .int)) ({ frames := 8, cells := 0, slots := 0, locals := 60 * (8) } : Room)).room s m ([.ref h0, .int x1] : List Value).toArray below meth c H locs 0 0 (MQ below (va_Qi (fun (x : Int32) (_ : Unit) => x = r9) (fun _ t_ => va_P (dC, dI) vwCl (mW cB cI cJ cZ h0 a cs9) t_.heap ∧ va_D A (mW cB cI cJ cZ h0 a cs9)) A) ([.ref h0, .int x1] : List Value).toArray s 0 0 A) (F0 m 193 ls [.int y0]) := by
    intro cs1 u1 u2 u4 u5 u6 y0 h H locs ls hP hD hS hl
    unfold m_find_b193 at h
    refine lv_istore (lv' := [(7, .int y0), (0, .ref h0), (1, .int u1), (2, .int u2), (4, .int u4), (5, .int u5), (6, .int u6)]) hx hb dX12_find_193 hl (by decide) rfl (fun ls hl => ?_)
    refine lv_iconst (v := 0) hx hb dX12_find_195 (by decide) ?_
    refine lv_istore (lv' := [(8, .int 0), (7, .int y0), (0, .ref h0), (1, .int u1), (2, .int u2), (4, .int u4), (5, .int u5), (6, .int u6)]) hx hb dX12_find_196 hl (by decide) rfl (fun ls hl => ?_)
    exact L_198 F cs1 u1 u2 u4 u5 u6 y0 0 h _ _ _ hP hD hS (lv_sub hl [2, 3, 4, 5, 6, 7, 1, 0] rfl)
  have h := hf
  unfold m_find at h
  refine lv_aload_n hx hb dX12_find_0 rfl (lv_at hl 0 rfl) ?_
  refine fg_30 hx hb hts hown hK hP dX12_find_1 ?_
  refine lv_iload_n hx hb dX12_find_4 rfl (lv_at hl 1 rfl) ?_
  obtain ⟨v_32, hv_32, h⟩ := ob h
  refine ag_30 hx hb hK hP hv_32 dX12_find_5 ?_
  refine lv_istore_n (lv' := [(2, .int v_32), (0, .ref h0), (1, .int x1)]) hx hb dX12_find_6 rfl hl (by decide) rfl (fun ls hl => ?_)
  refine lv_aload_n hx hb dX12_find_7 rfl (lv_at hl 1 rfl) ?_
  refine fg_27 hx hb hts hown hK hP dX12_find_8 ?_
  refine lv_iload_n hx hb dX12_find_11 rfl (lv_at hl 2 rfl) ?_
  obtain ⟨v_33, hv_33, h⟩ := ob h
  refine ag_27 hx hb hK hP hv_33 dX12_find_12 ?_
  refine lv_istore_n (lv' := [(3, .int v_33), (2, .int v_32), (0, .ref h0), (1, .int x1)]) hx hb dX12_find_13 rfl hl (by decide) rfl (fun ls hl => ?_)
  refine lv_iconst (v := 0) hx hb dX12_find_14 (by decide) ?_
  refine lv_istore (lv' := [(4, .int 0), (3, .int v_33), (2, .int v_32), (0, .ref h0), (1, .int x1)]) hx hb dX12_find_15 hl (by decide) rfl (fun ls hl => ?_)
  refine lv_iconst (v := 1) hx hb dX12_find_17 (by decide) ?_
  refine lv_istore (lv' := [(5, .int 1), (4, .int 0), (3, .int v_33), (2, .int v_32), (0, .ref h0), (1, .int x1)]) hx hb dX12_find_18 hl (by decide) rfl (fun ls hl => ?_)
  refine lv_aload_n hx hb dX12_find_20 rfl (lv_at hl 4 rfl) ?_
  refine fg_76 hx hb hts hown hK hP dX12_find_21 ?_
  refine lv_if_ne (tgt := 157) hx hb dX12_find_24 (by decide) (fun c_34 => ?_) (fun c_34 => ?_)
  · skip
    replace h := (if_neg c_34).symm.trans h
    refine lv_iload_n hx hb dX12_find_157 rfl (lv_at hl 2 rfl) ?_
    refine lv_iconst (v := (-1)) hx hb dX12_find_158 (by decide) ?_
    refine lv_icmp_ne (tgt := 316) hx hb dX12_find_159 (by decide) (fun c_35 => ?_) (fun c_35 => ?_)
    · skip
      replace h := (if_neg c_35).symm.trans h
      exact B_316 cs v_32 0 1 h _ _ _ hP hD hS (lv_sub hl [4, 3, 1, 0] rfl)
    · skip
      replace h := (if_pos c_35).symm.trans h
      refine lv_aload_n hx hb dX12_find_162 rfl (lv_at hl 4 rfl) ?_
      refine fg_77 hx hb hts hown hK hP dX12_find_163 ?_
      refine lv_istore (lv' := [(6, .int (cs.1 77)), (5, .int 1), (4, .int 0), (3, .int v_33), (2, .int v_32), (0, .ref h0), (1, .int x1)]) hx hb dX12_find_166 hl (by decide) rfl (fun ls hl => ?_)
      refine lv_aload_n hx hb dX12_find_168 rfl (lv_at hl 5 rfl) ?_
      refine fg_76 hx hb hts hown hK hP dX12_find_169 ?_
      refine lv_iconst (v := 1) hx hb dX12_find_172 (by decide) ?_
      refine lv_icmp_ne (tgt := 186) hx hb dX12_find_173 (by decide) (fun c_36 => ?_) (fun c_36 => ?_)
      · skip
        replace h := (if_neg c_36).symm.trans h
        refine lv_aload_n hx hb dX12_find_186 rfl (lv_at hl 5 rfl) ?_
        refine fg_36 hx hb hts hown hK hP dX12_find_187 ?_
        refine lv_iload hx hb dX12_find_190 (lv_at hl 0 rfl) ?_
        obtain ⟨v_37, hv_37, h⟩ := ob h
        refine ag_36 hx hb hK hP hv_37 dX12_find_192 ?_
        exact B_193 cs x1 v_32 0 1 (cs.1 77) v_37 h _ _ _ hP hD hS (lv_sub hl [5, 6, 4, 2, 1, 0] rfl)
      · skip
        replace h := (if_pos c_36).symm.trans h
        refine lv_aload_n hx hb dX12_find_176 rfl (lv_at hl 5 rfl) ?_
        refine fg_39 hx hb hts hown hK hP dX12_find_177 ?_
        refine lv_iload hx hb dX12_find_180 (lv_at hl 0 rfl) ?_
        obtain ⟨v_38, hv_38, h⟩ := ob h
        refine ag_39 hx hb hK hP hv_38 dX12_find_182 ?_
        refine lv_goto (tgt := 193) hx hb dX12_find_183 (by decide) ?_
        exact B_193 cs x1 v_32 0 1 (cs.1 77) v_38 h _ _ _ hP hD hS (lv_sub hl [5, 6, 4, 2, 1, 0] rfl)
  · skip
    replace h := (if_pos c_34).symm.trans h
    refine lv_iconst (v := 0) hx hb dX12_find_27 (by decide) ?_
    refine lv_istore (lv' := [(6, .int 0), (5, .int 1), (4, .int 0), (3, .int v_33), (2, .int v_32), (0, .ref h0), (1, .int x1)]) hx hb dX12_find_28 hl (by decide) rfl (fun ls hl => ?_)
    exact L_30 F cs x1 v_32 v_33 0 1 0 h _ _ _ hP hD hS (lv_sub hl [5, 6, 4, 3, 2, 1, 0] rfl)
theorem cw_find {R : Room} {s : State} {args : Array Value} {y0 : MethodName} {c0 : ByteArray} {n0 : Nat} {r0 : Option FieldType} (hts : ∀ w ∈ wsOf y0 c0 n0 r0, w.before args s = true) {fr : Nat} (h1 : fr + 1 ≤ R.frames) (h2 : 8 + (10 + 11) + 60 * fr ≤ R.locals) : CallW R s args RX12 RX12 534 yX12_find cX12_find 10 (some .int) (wsOf yX12_find cX12_find 10 (some .int)) ({ frames := fr, cells := 0, slots := 0, locals := 60 * fr } : Room) 0 0 1 := cwV 1 hts (gd_all (in_V kw_2439 kw_2441 kw_173 kw_191 kc_X12_find)) rfl rfl rfl (by decide +kernel) ⟨h1, h2⟩
abbrev TG_judge : Type := (RS → Int32 → Option RS)
theorem dX12_judge_0 : decode cX12_judge 0 = .ok (.aload_n 0, 1) := by decide +kernel
theorem dX12_judge_1 : decode cX12_judge 1 = .ok (.getfield 292, 3) := by decide +kernel
theorem dX12_judge_4 : decode cX12_judge 4 = .ok (.ifCond .ne 4, 3) := by decide +kernel
theorem dX12_judge_7 : decode cX12_judge 7 = .ok (.return_, 1) := by decide +kernel
theorem dX12_judge_8 : decode cX12_judge 8 = .ok (.aload_n 0, 1) := by decide +kernel
theorem dX12_judge_9 : decode cX12_judge 9 = .ok (.getfield 52, 3) := by decide +kernel
theorem dX12_judge_12 : decode cX12_judge 12 = .ok (.iload_n 1, 1) := by decide +kernel
theorem dX12_judge_13 : decode cX12_judge 13 = .ok (.iaload, 1) := by decide +kernel
theorem dX12_judge_14 : decode cX12_judge 14 = .ok (.istore_n 2, 1) := by decide +kernel
theorem dX12_judge_15 : decode cX12_judge 15 = .ok (.iconst 1, 1) := by decide +kernel
theorem dX12_judge_16 : decode cX12_judge 16 = .ok (.istore_n 3, 1) := by decide +kernel
theorem dX12_judge_17 : decode cX12_judge 17 = .ok (.iload_n 2, 1) := by decide +kernel
theorem dX12_judge_18 : decode cX12_judge 18 = .ok (.iconst 2, 1) := by decide +kernel
theorem dX12_judge_19 : decode cX12_judge 19 = .ok (.if_icmp .ne 8, 3) := by decide +kernel
theorem dX12_judge_22 : decode cX12_judge 22 = .ok (.iconst 0, 1) := by decide +kernel
theorem dX12_judge_23 : decode cX12_judge 23 = .ok (.istore_n 3, 1) := by decide +kernel
theorem dX12_judge_24 : decode cX12_judge 24 = .ok (.goto 515, 3) := by decide +kernel
theorem dX12_judge_27 : decode cX12_judge 27 = .ok (.iload_n 2, 1) := by decide +kernel
theorem dX12_judge_28 : decode cX12_judge 28 = .ok (.iconst 3, 1) := by decide +kernel
theorem dX12_judge_29 : decode cX12_judge 29 = .ok (.if_icmp .eq 8, 3) := by decide +kernel
theorem dX12_judge_32 : decode cX12_judge 32 = .ok (.iload_n 2, 1) := by decide +kernel
theorem dX12_judge_33 : decode cX12_judge 33 = .ok (.iconst 4, 1) := by decide +kernel
theorem dX12_judge_34 : decode cX12_judge 34 = .ok (.if_icmp .ne 8, 3) := by decide +kernel
theorem dX12_judge_37 : decode cX12_judge 37 = .ok (.iconst 2, 1) := by decide +kernel
theorem dX12_judge_38 : decode cX12_judge 38 = .ok (.istore_n 3, 1) := by decide +kernel
theorem dX12_judge_39 : decode cX12_judge 39 = .ok (.goto 500, 3) := by decide +kernel
theorem dX12_judge_42 : decode cX12_judge 42 = .ok (.iload_n 2, 1) := by decide +kernel
theorem dX12_judge_43 : decode cX12_judge 43 = .ok (.iconst 5, 1) := by decide +kernel
theorem dX12_judge_44 : decode cX12_judge 44 = .ok (.if_icmp .ne 12, 3) := by decide +kernel
theorem dX12_judge_47 : decode cX12_judge 47 = .ok (.aload_n 0, 1) := by decide +kernel
theorem dX12_judge_48 : decode cX12_judge 48 = .ok (.iload_n 1, 1) := by decide +kernel
theorem dX12_judge_49 : decode cX12_judge 49 = .ok (.invokevirtual 534, 3) := by decide +kernel
theorem dX12_judge_52 : decode cX12_judge 52 = .ok (.istore_n 3, 1) := by decide +kernel
theorem dX12_judge_53 : decode cX12_judge 53 = .ok (.goto 486, 3) := by decide +kernel
theorem dX12_judge_56 : decode cX12_judge 56 = .ok (.iload_n 2, 1) := by decide +kernel
theorem dX12_judge_57 : decode cX12_judge 57 = .ok (.bipush 21, 2) := by decide +kernel
theorem dX12_judge_59 : decode cX12_judge 59 = .ok (.if_icmp .lt 50, 3) := by decide +kernel
theorem dX12_judge_62 : decode cX12_judge 62 = .ok (.aload_n 0, 1) := by decide +kernel
theorem dX12_judge_63 : decode cX12_judge 63 = .ok (.getfield 512, 3) := by decide +kernel
theorem dX12_judge_66 : decode cX12_judge 66 = .ok (.istore 4, 2) := by decide +kernel
theorem dX12_judge_68 : decode cX12_judge 68 = .ok (.aload_n 0, 1) := by decide +kernel
theorem dX12_judge_69 : decode cX12_judge 69 = .ok (.iconst 0, 1) := by decide +kernel
theorem dX12_judge_70 : decode cX12_judge 70 = .ok (.putfield 512, 3) := by decide +kernel
theorem dX12_judge_73 : decode cX12_judge 73 = .ok (.aload_n 0, 1) := by decide +kernel
theorem dX12_judge_74 : decode cX12_judge 74 = .ok (.aload_n 0, 1) := by decide +kernel
theorem dX12_judge_75 : decode cX12_judge 75 = .ok (.getfield 55, 3) := by decide +kernel
theorem dX12_judge_78 : decode cX12_judge 78 = .ok (.iload_n 1, 1) := by decide +kernel
theorem dX12_judge_79 : decode cX12_judge 79 = .ok (.iaload, 1) := by decide +kernel
theorem dX12_judge_80 : decode cX12_judge 80 = .ok (.invokevirtual 537, 3) := by decide +kernel
theorem dX12_judge_83 : decode cX12_judge 83 = .ok (.aload_n 0, 1) := by decide +kernel
theorem dX12_judge_84 : decode cX12_judge 84 = .ok (.iload 4, 2) := by decide +kernel
theorem dX12_judge_86 : decode cX12_judge 86 = .ok (.putfield 512, 3) := by decide +kernel
theorem dX12_judge_89 : decode cX12_judge 89 = .ok (.iload_n 2, 1) := by decide +kernel
theorem dX12_judge_90 : decode cX12_judge 90 = .ok (.bipush 21, 2) := by decide +kernel
theorem dX12_judge_92 : decode cX12_judge 92 = .ok (.if_icmp .eq 14, 3) := by decide +kernel
theorem dX12_judge_95 : decode cX12_judge 95 = .ok (.aload_n 0, 1) := by decide +kernel
theorem dX12_judge_96 : decode cX12_judge 96 = .ok (.aload_n 0, 1) := by decide +kernel
theorem dX12_judge_97 : decode cX12_judge 97 = .ok (.getfield 55, 3) := by decide +kernel
theorem dX12_judge_100 : decode cX12_judge 100 = .ok (.iload_n 1, 1) := by decide +kernel
theorem dX12_judge_101 : decode cX12_judge 101 = .ok (.iaload, 1) := by decide +kernel
theorem dX12_judge_102 : decode cX12_judge 102 = .ok (.iconst 1, 1) := by decide +kernel
theorem dX12_judge_103 : decode cX12_judge 103 = .ok (.invokevirtual 540, 3) := by decide +kernel
theorem dX12_judge_106 : decode cX12_judge 106 = .ok (.goto 433, 3) := by decide +kernel
theorem dX12_judge_109 : decode cX12_judge 109 = .ok (.iload_n 2, 1) := by decide +kernel
theorem dX12_judge_110 : decode cX12_judge 110 = .ok (.bipush 18, 2) := by decide +kernel
theorem dX12_judge_112 : decode cX12_judge 112 = .ok (.if_icmp .ne 148, 3) := by decide +kernel
theorem dX12_judge_115 : decode cX12_judge 115 = .ok (.aload_n 0, 1) := by decide +kernel
theorem dX12_judge_116 : decode cX12_judge 116 = .ok (.aload_n 0, 1) := by decide +kernel
theorem dX12_judge_117 : decode cX12_judge 117 = .ok (.getfield 55, 3) := by decide +kernel
theorem dX12_judge_120 : decode cX12_judge 120 = .ok (.iload_n 1, 1) := by decide +kernel
theorem dX12_judge_121 : decode cX12_judge 121 = .ok (.iaload, 1) := by decide +kernel
theorem dX12_judge_122 : decode cX12_judge 122 = .ok (.invokevirtual 537, 3) := by decide +kernel
theorem dX12_judge_125 : decode cX12_judge 125 = .ok (.aload_n 0, 1) := by decide +kernel
theorem dX12_judge_126 : decode cX12_judge 126 = .ok (.aload_n 0, 1) := by decide +kernel
theorem dX12_judge_127 : decode cX12_judge 127 = .ok (.getfield 58, 3) := by decide +kernel
theorem dX12_judge_130 : decode cX12_judge 130 = .ok (.iload_n 1, 1) := by decide +kernel
theorem dX12_judge_131 : decode cX12_judge 131 = .ok (.iaload, 1) := by decide +kernel
theorem dX12_judge_132 : decode cX12_judge 132 = .ok (.invokevirtual 537, 3) := by decide +kernel
theorem dX12_judge_135 : decode cX12_judge 135 = .ok (.aload_n 0, 1) := by decide +kernel
theorem dX12_judge_136 : decode cX12_judge 136 = .ok (.aload_n 0, 1) := by decide +kernel
theorem dX12_judge_137 : decode cX12_judge 137 = .ok (.getfield 61, 3) := by decide +kernel
theorem dX12_judge_140 : decode cX12_judge 140 = .ok (.iload_n 1, 1) := by decide +kernel
theorem dX12_judge_141 : decode cX12_judge 141 = .ok (.iaload, 1) := by decide +kernel
theorem dX12_judge_142 : decode cX12_judge 142 = .ok (.invokevirtual 537, 3) := by decide +kernel
theorem dX12_judge_145 : decode cX12_judge 145 = .ok (.aload_n 0, 1) := by decide +kernel
theorem dX12_judge_146 : decode cX12_judge 146 = .ok (.aload_n 0, 1) := by decide +kernel
theorem dX12_judge_147 : decode cX12_judge 147 = .ok (.getfield 55, 3) := by decide +kernel
theorem dX12_judge_150 : decode cX12_judge 150 = .ok (.iload_n 1, 1) := by decide +kernel
theorem dX12_judge_151 : decode cX12_judge 151 = .ok (.iaload, 1) := by decide +kernel
theorem dX12_judge_152 : decode cX12_judge 152 = .ok (.iconst 2, 1) := by decide +kernel
theorem dX12_judge_153 : decode cX12_judge 153 = .ok (.invokevirtual 540, 3) := by decide +kernel
theorem dX12_judge_156 : decode cX12_judge 156 = .ok (.aload_n 0, 1) := by decide +kernel
theorem dX12_judge_157 : decode cX12_judge 157 = .ok (.getfield 292, 3) := by decide +kernel
theorem dX12_judge_160 : decode cX12_judge 160 = .ok (.ifCond .eq 17, 3) := by decide +kernel
theorem dX12_judge_163 : decode cX12_judge 163 = .ok (.aload_n 0, 1) := by decide +kernel
theorem dX12_judge_164 : decode cX12_judge 164 = .ok (.getfield 76, 3) := by decide +kernel
theorem dX12_judge_167 : decode cX12_judge 167 = .ok (.aload_n 0, 1) := by decide +kernel
theorem dX12_judge_168 : decode cX12_judge 168 = .ok (.getfield 58, 3) := by decide +kernel
theorem dX12_judge_171 : decode cX12_judge 171 = .ok (.iload_n 1, 1) := by decide +kernel
theorem dX12_judge_172 : decode cX12_judge 172 = .ok (.iaload, 1) := by decide +kernel
theorem dX12_judge_173 : decode cX12_judge 173 = .ok (.iaload, 1) := by decide +kernel
theorem dX12_judge_174 : decode cX12_judge 174 = .ok (.goto 4, 3) := by decide +kernel
theorem dX12_judge_177 : decode cX12_judge 177 = .ok (.iconst 0, 1) := by decide +kernel
theorem dX12_judge_178 : decode cX12_judge 178 = .ok (.istore 4, 2) := by decide +kernel
theorem dX12_judge_180 : decode cX12_judge 180 = .ok (.aload_n 0, 1) := by decide +kernel
theorem dX12_judge_181 : decode cX12_judge 181 = .ok (.getfield 292, 3) := by decide +kernel
theorem dX12_judge_184 : decode cX12_judge 184 = .ok (.ifCond .eq 17, 3) := by decide +kernel
theorem dX12_judge_187 : decode cX12_judge 187 = .ok (.aload_n 0, 1) := by decide +kernel
theorem dX12_judge_188 : decode cX12_judge 188 = .ok (.getfield 76, 3) := by decide +kernel
theorem dX12_judge_191 : decode cX12_judge 191 = .ok (.aload_n 0, 1) := by decide +kernel
theorem dX12_judge_192 : decode cX12_judge 192 = .ok (.getfield 61, 3) := by decide +kernel
theorem dX12_judge_195 : decode cX12_judge 195 = .ok (.iload_n 1, 1) := by decide +kernel
theorem dX12_judge_196 : decode cX12_judge 196 = .ok (.iaload, 1) := by decide +kernel
theorem dX12_judge_197 : decode cX12_judge 197 = .ok (.iaload, 1) := by decide +kernel
theorem dX12_judge_198 : decode cX12_judge 198 = .ok (.goto 4, 3) := by decide +kernel
theorem dX12_judge_201 : decode cX12_judge 201 = .ok (.iconst 0, 1) := by decide +kernel
theorem dX12_judge_202 : decode cX12_judge 202 = .ok (.istore 5, 2) := by decide +kernel
theorem dX12_judge_204 : decode cX12_judge 204 = .ok (.aload_n 0, 1) := by decide +kernel
theorem dX12_judge_205 : decode cX12_judge 205 = .ok (.getfield 292, 3) := by decide +kernel
theorem dX12_judge_208 : decode cX12_judge 208 = .ok (.ifCond .eq 36, 3) := by decide +kernel
theorem dX12_judge_211 : decode cX12_judge 211 = .ok (.iload 4, 2) := by decide +kernel
theorem dX12_judge_213 : decode cX12_judge 213 = .ok (.ifCond .eq 31, 3) := by decide +kernel
theorem dX12_judge_216 : decode cX12_judge 216 = .ok (.iload 5, 2) := by decide +kernel
theorem dX12_judge_218 : decode cX12_judge 218 = .ok (.ifCond .eq 26, 3) := by decide +kernel
theorem dX12_judge_221 : decode cX12_judge 221 = .ok (.iload 4, 2) := by decide +kernel
theorem dX12_judge_223 : decode cX12_judge 223 = .ok (.iload 5, 2) := by decide +kernel
theorem dX12_judge_225 : decode cX12_judge 225 = .ok (.if_icmp .eq 19, 3) := by decide +kernel
theorem dX12_judge_228 : decode cX12_judge 228 = .ok (.aload_n 0, 1) := by decide +kernel
theorem dX12_judge_229 : decode cX12_judge 229 = .ok (.iconst 4, 1) := by decide +kernel
theorem dX12_judge_230 : decode cX12_judge 230 = .ok (.aload_n 0, 1) := by decide +kernel
theorem dX12_judge_231 : decode cX12_judge 231 = .ok (.getfield 70, 3) := by decide +kernel
theorem dX12_judge_234 : decode cX12_judge 234 = .ok (.aload_n 0, 1) := by decide +kernel
theorem dX12_judge_235 : decode cX12_judge 235 = .ok (.getfield 61, 3) := by decide +kernel
theorem dX12_judge_238 : decode cX12_judge 238 = .ok (.iload_n 1, 1) := by decide +kernel
theorem dX12_judge_239 : decode cX12_judge 239 = .ok (.iaload, 1) := by decide +kernel
theorem dX12_judge_240 : decode cX12_judge 240 = .ok (.iaload, 1) := by decide +kernel
theorem dX12_judge_241 : decode cX12_judge 241 = .ok (.invokevirtual 305, 3) := by decide +kernel
theorem dX12_judge_244 : decode cX12_judge 244 = .ok (.iload 4, 2) := by decide +kernel
theorem dX12_judge_246 : decode cX12_judge 246 = .ok (.ifCond .ne 8, 3) := by decide +kernel
theorem dX12_judge_249 : decode cX12_judge 249 = .ok (.iload 5, 2) := by decide +kernel
theorem dX12_judge_251 : decode cX12_judge 251 = .ok (.goto 5, 3) := by decide +kernel
theorem dX12_judge_254 : decode cX12_judge 254 = .ok (.iload 4, 2) := by decide +kernel
theorem dX12_judge_256 : decode cX12_judge 256 = .ok (.istore_n 3, 1) := by decide +kernel
theorem dX12_judge_257 : decode cX12_judge 257 = .ok (.goto 282, 3) := by decide +kernel
theorem dX12_judge_260 : decode cX12_judge 260 = .ok (.iload_n 2, 1) := by decide +kernel
theorem dX12_judge_261 : decode cX12_judge 261 = .ok (.bipush 11, 2) := by decide +kernel
theorem dX12_judge_263 : decode cX12_judge 263 = .ok (.if_icmp .ne 108, 3) := by decide +kernel
theorem dX12_judge_266 : decode cX12_judge 266 = .ok (.aload_n 0, 1) := by decide +kernel
theorem dX12_judge_267 : decode cX12_judge 267 = .ok (.aload_n 0, 1) := by decide +kernel
theorem dX12_judge_268 : decode cX12_judge 268 = .ok (.getfield 55, 3) := by decide +kernel
theorem dX12_judge_271 : decode cX12_judge 271 = .ok (.iload_n 1, 1) := by decide +kernel
theorem dX12_judge_272 : decode cX12_judge 272 = .ok (.iaload, 1) := by decide +kernel
theorem dX12_judge_273 : decode cX12_judge 273 = .ok (.invokevirtual 537, 3) := by decide +kernel
theorem dX12_judge_276 : decode cX12_judge 276 = .ok (.aload_n 0, 1) := by decide +kernel
theorem dX12_judge_277 : decode cX12_judge 277 = .ok (.getfield 58, 3) := by decide +kernel
theorem dX12_judge_280 : decode cX12_judge 280 = .ok (.iload_n 1, 1) := by decide +kernel
theorem dX12_judge_281 : decode cX12_judge 281 = .ok (.iaload, 1) := by decide +kernel
theorem dX12_judge_282 : decode cX12_judge 282 = .ok (.istore 4, 2) := by decide +kernel
theorem dX12_judge_284 : decode cX12_judge 284 = .ok (.iload 4, 2) := by decide +kernel
theorem dX12_judge_286 : decode cX12_judge 286 = .ok (.iconst (-1), 1) := by decide +kernel
theorem dX12_judge_287 : decode cX12_judge 287 = .ok (.if_icmp .eq 28, 3) := by decide +kernel
theorem dX12_judge_290 : decode cX12_judge 290 = .ok (.aload_n 0, 1) := by decide +kernel
theorem dX12_judge_291 : decode cX12_judge 291 = .ok (.getfield 292, 3) := by decide +kernel
theorem dX12_judge_294 : decode cX12_judge 294 = .ok (.ifCond .eq 21, 3) := by decide +kernel
theorem dX12_judge_297 : decode cX12_judge 297 = .ok (.aload_n 0, 1) := by decide +kernel
theorem dX12_judge_298 : decode cX12_judge 298 = .ok (.iload 4, 2) := by decide +kernel
theorem dX12_judge_300 : decode cX12_judge 300 = .ok (.invokevirtual 537, 3) := by decide +kernel
theorem dX12_judge_303 : decode cX12_judge 303 = .ok (.aload_n 0, 1) := by decide +kernel
theorem dX12_judge_304 : decode cX12_judge 304 = .ok (.getfield 79, 3) := by decide +kernel
theorem dX12_judge_307 : decode cX12_judge 307 = .ok (.iload 4, 2) := by decide +kernel
theorem dX12_judge_309 : decode cX12_judge 309 = .ok (.iaload, 1) := by decide +kernel
theorem dX12_judge_310 : decode cX12_judge 310 = .ok (.istore 4, 2) := by decide +kernel
theorem dX12_judge_312 : decode cX12_judge 312 = .ok (.goto (-28), 3) := by decide +kernel
theorem dX12_judge_315 : decode cX12_judge 315 = .ok (.aload_n 0, 1) := by decide +kernel
theorem dX12_judge_316 : decode cX12_judge 316 = .ok (.aload_n 0, 1) := by decide +kernel
theorem dX12_judge_317 : decode cX12_judge 317 = .ok (.getfield 55, 3) := by decide +kernel
theorem dX12_judge_320 : decode cX12_judge 320 = .ok (.iload_n 1, 1) := by decide +kernel
theorem dX12_judge_321 : decode cX12_judge 321 = .ok (.iaload, 1) := by decide +kernel
theorem dX12_judge_322 : decode cX12_judge 322 = .ok (.iconst 1, 1) := by decide +kernel
theorem dX12_judge_323 : decode cX12_judge 323 = .ok (.invokevirtual 540, 3) := by decide +kernel
theorem dX12_judge_326 : decode cX12_judge 326 = .ok (.aload_n 0, 1) := by decide +kernel
theorem dX12_judge_327 : decode cX12_judge 327 = .ok (.getfield 58, 3) := by decide +kernel
theorem dX12_judge_330 : decode cX12_judge 330 = .ok (.iload_n 1, 1) := by decide +kernel
theorem dX12_judge_331 : decode cX12_judge 331 = .ok (.iaload, 1) := by decide +kernel
theorem dX12_judge_332 : decode cX12_judge 332 = .ok (.istore 4, 2) := by decide +kernel
theorem dX12_judge_334 : decode cX12_judge 334 = .ok (.iload 4, 2) := by decide +kernel
theorem dX12_judge_336 : decode cX12_judge 336 = .ok (.iconst (-1), 1) := by decide +kernel
theorem dX12_judge_337 : decode cX12_judge 337 = .ok (.if_icmp .eq 29, 3) := by decide +kernel
theorem dX12_judge_340 : decode cX12_judge 340 = .ok (.aload_n 0, 1) := by decide +kernel
theorem dX12_judge_341 : decode cX12_judge 341 = .ok (.getfield 292, 3) := by decide +kernel
theorem dX12_judge_344 : decode cX12_judge 344 = .ok (.ifCond .eq 22, 3) := by decide +kernel
theorem dX12_judge_347 : decode cX12_judge 347 = .ok (.aload_n 0, 1) := by decide +kernel
theorem dX12_judge_348 : decode cX12_judge 348 = .ok (.iload 4, 2) := by decide +kernel
theorem dX12_judge_350 : decode cX12_judge 350 = .ok (.iconst 1, 1) := by decide +kernel
theorem dX12_judge_351 : decode cX12_judge 351 = .ok (.invokevirtual 540, 3) := by decide +kernel
theorem dX12_judge_354 : decode cX12_judge 354 = .ok (.aload_n 0, 1) := by decide +kernel
theorem dX12_judge_355 : decode cX12_judge 355 = .ok (.getfield 79, 3) := by decide +kernel
theorem dX12_judge_358 : decode cX12_judge 358 = .ok (.iload 4, 2) := by decide +kernel
theorem dX12_judge_360 : decode cX12_judge 360 = .ok (.iaload, 1) := by decide +kernel
theorem dX12_judge_361 : decode cX12_judge 361 = .ok (.istore 4, 2) := by decide +kernel
theorem dX12_judge_363 : decode cX12_judge 363 = .ok (.goto (-29), 3) := by decide +kernel
theorem dX12_judge_366 : decode cX12_judge 366 = .ok (.iconst 2, 1) := by decide +kernel
theorem dX12_judge_367 : decode cX12_judge 367 = .ok (.istore_n 3, 1) := by decide +kernel
theorem dX12_judge_368 : decode cX12_judge 368 = .ok (.goto 171, 3) := by decide +kernel
theorem dX12_judge_371 : decode cX12_judge 371 = .ok (.iload_n 2, 1) := by decide +kernel
theorem dX12_judge_372 : decode cX12_judge 372 = .ok (.bipush 8, 2) := by decide +kernel
theorem dX12_judge_374 : decode cX12_judge 374 = .ok (.if_icmp .eq 15, 3) := by decide +kernel
theorem dX12_judge_377 : decode cX12_judge 377 = .ok (.iload_n 2, 1) := by decide +kernel
theorem dX12_judge_378 : decode cX12_judge 378 = .ok (.bipush 10, 2) := by decide +kernel
theorem dX12_judge_380 : decode cX12_judge 380 = .ok (.if_icmp .eq 9, 3) := by decide +kernel
theorem dX12_judge_383 : decode cX12_judge 383 = .ok (.iload_n 2, 1) := by decide +kernel
theorem dX12_judge_384 : decode cX12_judge 384 = .ok (.bipush 17, 2) := by decide +kernel
theorem dX12_judge_386 : decode cX12_judge 386 = .ok (.if_icmp .ne 55, 3) := by decide +kernel
theorem dX12_judge_389 : decode cX12_judge 389 = .ok (.aload_n 0, 1) := by decide +kernel
theorem dX12_judge_390 : decode cX12_judge 390 = .ok (.aload_n 0, 1) := by decide +kernel
theorem dX12_judge_391 : decode cX12_judge 391 = .ok (.getfield 55, 3) := by decide +kernel
theorem dX12_judge_394 : decode cX12_judge 394 = .ok (.iload_n 1, 1) := by decide +kernel
theorem dX12_judge_395 : decode cX12_judge 395 = .ok (.iaload, 1) := by decide +kernel
theorem dX12_judge_396 : decode cX12_judge 396 = .ok (.invokevirtual 537, 3) := by decide +kernel
theorem dX12_judge_399 : decode cX12_judge 399 = .ok (.iload_n 2, 1) := by decide +kernel
theorem dX12_judge_400 : decode cX12_judge 400 = .ok (.bipush 10, 2) := by decide +kernel
theorem dX12_judge_402 : decode cX12_judge 402 = .ok (.if_icmp .eq 24, 3) := by decide +kernel
theorem dX12_judge_405 : decode cX12_judge 405 = .ok (.aload_n 0, 1) := by decide +kernel
theorem dX12_judge_406 : decode cX12_judge 406 = .ok (.aload_n 0, 1) := by decide +kernel
theorem dX12_judge_407 : decode cX12_judge 407 = .ok (.getfield 55, 3) := by decide +kernel
theorem dX12_judge_410 : decode cX12_judge 410 = .ok (.iload_n 1, 1) := by decide +kernel
theorem dX12_judge_411 : decode cX12_judge 411 = .ok (.iaload, 1) := by decide +kernel
theorem dX12_judge_412 : decode cX12_judge 412 = .ok (.iload_n 2, 1) := by decide +kernel
theorem dX12_judge_413 : decode cX12_judge 413 = .ok (.bipush 8, 2) := by decide +kernel
theorem dX12_judge_415 : decode cX12_judge 415 = .ok (.if_icmp .ne 7, 3) := by decide +kernel
theorem dX12_judge_418 : decode cX12_judge 418 = .ok (.iconst 2, 1) := by decide +kernel
theorem dX12_judge_419 : decode cX12_judge 419 = .ok (.goto 4, 3) := by decide +kernel
theorem dX12_judge_422 : decode cX12_judge 422 = .ok (.iconst 1, 1) := by decide +kernel
theorem dX12_judge_423 : decode cX12_judge 423 = .ok (.invokevirtual 540, 3) := by decide +kernel
theorem dX12_judge_426 : decode cX12_judge 426 = .ok (.iload_n 2, 1) := by decide +kernel
theorem dX12_judge_427 : decode cX12_judge 427 = .ok (.bipush 17, 2) := by decide +kernel
theorem dX12_judge_429 : decode cX12_judge 429 = .ok (.if_icmp .ne 7, 3) := by decide +kernel
theorem dX12_judge_432 : decode cX12_judge 432 = .ok (.iconst 1, 1) := by decide +kernel
theorem dX12_judge_433 : decode cX12_judge 433 = .ok (.goto 4, 3) := by decide +kernel
theorem dX12_judge_436 : decode cX12_judge 436 = .ok (.iconst 2, 1) := by decide +kernel
theorem dX12_judge_437 : decode cX12_judge 437 = .ok (.istore_n 3, 1) := by decide +kernel
theorem dX12_judge_438 : decode cX12_judge 438 = .ok (.goto 101, 3) := by decide +kernel
theorem dX12_judge_441 : decode cX12_judge 441 = .ok (.iload_n 2, 1) := by decide +kernel
theorem dX12_judge_442 : decode cX12_judge 442 = .ok (.iconst 1, 1) := by decide +kernel
theorem dX12_judge_443 : decode cX12_judge 443 = .ok (.if_icmp .eq 96, 3) := by decide +kernel
theorem dX12_judge_446 : decode cX12_judge 446 = .ok (.iload_n 2, 1) := by decide +kernel
theorem dX12_judge_447 : decode cX12_judge 447 = .ok (.bipush 20, 2) := by decide +kernel
theorem dX12_judge_449 : decode cX12_judge 449 = .ok (.if_icmp .eq 90, 3) := by decide +kernel
theorem dX12_judge_452 : decode cX12_judge 452 = .ok (.aload_n 0, 1) := by decide +kernel
theorem dX12_judge_453 : decode cX12_judge 453 = .ok (.aload_n 0, 1) := by decide +kernel
theorem dX12_judge_454 : decode cX12_judge 454 = .ok (.getfield 55, 3) := by decide +kernel
theorem dX12_judge_457 : decode cX12_judge 457 = .ok (.iload_n 1, 1) := by decide +kernel
theorem dX12_judge_458 : decode cX12_judge 458 = .ok (.iaload, 1) := by decide +kernel
theorem dX12_judge_459 : decode cX12_judge 459 = .ok (.invokevirtual 537, 3) := by decide +kernel
theorem dX12_judge_462 : decode cX12_judge 462 = .ok (.aload_n 0, 1) := by decide +kernel
theorem dX12_judge_463 : decode cX12_judge 463 = .ok (.aload_n 0, 1) := by decide +kernel
theorem dX12_judge_464 : decode cX12_judge 464 = .ok (.getfield 58, 3) := by decide +kernel
theorem dX12_judge_467 : decode cX12_judge 467 = .ok (.iload_n 1, 1) := by decide +kernel
theorem dX12_judge_468 : decode cX12_judge 468 = .ok (.iaload, 1) := by decide +kernel
theorem dX12_judge_469 : decode cX12_judge 469 = .ok (.invokevirtual 537, 3) := by decide +kernel
theorem dX12_judge_472 : decode cX12_judge 472 = .ok (.iload_n 2, 1) := by decide +kernel
theorem dX12_judge_473 : decode cX12_judge 473 = .ok (.bipush 6, 2) := by decide +kernel
theorem dX12_judge_475 : decode cX12_judge 475 = .ok (.if_icmp .eq 9, 3) := by decide +kernel
theorem dX12_judge_478 : decode cX12_judge 478 = .ok (.iload_n 2, 1) := by decide +kernel
theorem dX12_judge_479 : decode cX12_judge 479 = .ok (.bipush 7, 2) := by decide +kernel
theorem dX12_judge_481 : decode cX12_judge 481 = .ok (.if_icmp .ne 7, 3) := by decide +kernel
theorem dX12_judge_484 : decode cX12_judge 484 = .ok (.iconst 2, 1) := by decide +kernel
theorem dX12_judge_485 : decode cX12_judge 485 = .ok (.goto 4, 3) := by decide +kernel
theorem dX12_judge_488 : decode cX12_judge 488 = .ok (.iconst 1, 1) := by decide +kernel
theorem dX12_judge_489 : decode cX12_judge 489 = .ok (.istore 4, 2) := by decide +kernel
theorem dX12_judge_491 : decode cX12_judge 491 = .ok (.aload_n 0, 1) := by decide +kernel
theorem dX12_judge_492 : decode cX12_judge 492 = .ok (.aload_n 0, 1) := by decide +kernel
theorem dX12_judge_493 : decode cX12_judge 493 = .ok (.getfield 55, 3) := by decide +kernel
theorem dX12_judge_496 : decode cX12_judge 496 = .ok (.iload_n 1, 1) := by decide +kernel
theorem dX12_judge_497 : decode cX12_judge 497 = .ok (.iaload, 1) := by decide +kernel
theorem dX12_judge_498 : decode cX12_judge 498 = .ok (.iload 4, 2) := by decide +kernel
theorem dX12_judge_500 : decode cX12_judge 500 = .ok (.invokevirtual 540, 3) := by decide +kernel
theorem dX12_judge_503 : decode cX12_judge 503 = .ok (.aload_n 0, 1) := by decide +kernel
theorem dX12_judge_504 : decode cX12_judge 504 = .ok (.aload_n 0, 1) := by decide +kernel
theorem dX12_judge_505 : decode cX12_judge 505 = .ok (.getfield 58, 3) := by decide +kernel
theorem dX12_judge_508 : decode cX12_judge 508 = .ok (.iload_n 1, 1) := by decide +kernel
theorem dX12_judge_509 : decode cX12_judge 509 = .ok (.iaload, 1) := by decide +kernel
theorem dX12_judge_510 : decode cX12_judge 510 = .ok (.iload 4, 2) := by decide +kernel
theorem dX12_judge_512 : decode cX12_judge 512 = .ok (.invokevirtual 540, 3) := by decide +kernel
theorem dX12_judge_515 : decode cX12_judge 515 = .ok (.iload_n 2, 1) := by decide +kernel
theorem dX12_judge_516 : decode cX12_judge 516 = .ok (.bipush 6, 2) := by decide +kernel
theorem dX12_judge_518 : decode cX12_judge 518 = .ok (.if_icmp .eq 15, 3) := by decide +kernel
theorem dX12_judge_521 : decode cX12_judge 521 = .ok (.iload_n 2, 1) := by decide +kernel
theorem dX12_judge_522 : decode cX12_judge 522 = .ok (.bipush 7, 2) := by decide +kernel
theorem dX12_judge_524 : decode cX12_judge 524 = .ok (.if_icmp .eq 9, 3) := by decide +kernel
theorem dX12_judge_527 : decode cX12_judge 527 = .ok (.iload_n 2, 1) := by decide +kernel
theorem dX12_judge_528 : decode cX12_judge 528 = .ok (.bipush 9, 2) := by decide +kernel
theorem dX12_judge_530 : decode cX12_judge 530 = .ok (.if_icmp .ne 7, 3) := by decide +kernel
theorem dX12_judge_533 : decode cX12_judge 533 = .ok (.iconst 2, 1) := by decide +kernel
theorem dX12_judge_534 : decode cX12_judge 534 = .ok (.goto 4, 3) := by decide +kernel
theorem dX12_judge_537 : decode cX12_judge 537 = .ok (.iconst 1, 1) := by decide +kernel
theorem dX12_judge_538 : decode cX12_judge 538 = .ok (.istore_n 3, 1) := by decide +kernel
theorem dX12_judge_539 : decode cX12_judge 539 = .ok (.aload_n 0, 1) := by decide +kernel
theorem dX12_judge_540 : decode cX12_judge 540 = .ok (.getfield 76, 3) := by decide +kernel
theorem dX12_judge_543 : decode cX12_judge 543 = .ok (.iload_n 1, 1) := by decide +kernel
theorem dX12_judge_544 : decode cX12_judge 544 = .ok (.iload_n 3, 1) := by decide +kernel
theorem dX12_judge_545 : decode cX12_judge 545 = .ok (.iastore, 1) := by decide +kernel
theorem dX12_judge_546 : decode cX12_judge 546 = .ok (.return_, 1) := by decide +kernel
def m_judge_b539 (F : Nat) (T : TG_judge) (cs1 : RS) (u1 : Int32) (u3 : Int32) : Option RS := Option.bind (wrI cs1 31 121 u1 u3) fun cs_1 => some cs_1
def m_judge_b37 (F : Nat) (T : TG_judge) (cs1 : RS) (u1 : Int32) : Option RS := m_judge_b539 F T cs1 u1 2
def m_judge_b106 (F : Nat) (T : TG_judge) (cs1 : RS) (u1 : Int32) (u3 : Int32) : Option RS := m_judge_b539 F T cs1 u1 u3
def m_judge_b256 (F : Nat) (T : TG_judge) (cs1 : RS) (u1 : Int32) (y0 : Int32) : Option RS := m_judge_b539 F T cs1 u1 y0
def m_judge_b244 (F : Nat) (T : TG_judge) (cs1 : RS) (u1 : Int32) (u4 : Int32) (u5 : Int32) : Option RS := if u4 = 0 then (m_judge_b256 F T cs1 u1 u5) else (m_judge_b256 F T cs1 u1 u4)
def m_judge_b202 (F : Nat) (T : TG_judge) (cs1 : RS) (u1 : Int32) (u4 : Int32) (y0 : Int32) : Option RS := if (cs1.1 21) = 0 then (m_judge_b244 F T cs1 u1 u4 y0) else (if u4 = 0 then (m_judge_b244 F T cs1 u1 u4 y0) else (if y0 = 0 then (m_judge_b244 F T cs1 u1 u4 y0) else (if u4 = y0 then (m_judge_b244 F T cs1 u1 u4 y0) else (Option.bind (rdI (cs1.2.2.1 26) 121 u1) fun v_7 => Option.bind (rdI (cs1.2.2.1 29) 121 v_7) fun v_8 => Option.bind (m_tell F cs1 4 v_8) fun cs_9 => m_judge_b244 F T cs_9 u1 u4 y0))))
def m_judge_b178 (F : Nat) (T : TG_judge) (cs1 : RS) (u1 : Int32) (y0 : Int32) : Option RS := if (cs1.1 21) = 0 then (m_judge_b202 F T cs1 u1 y0 0) else (Option.bind (rdI (cs1.2.2.1 26) 121 u1) fun v_11 => Option.bind (rdI (cs1.2.2.1 31) 121 v_11) fun v_12 => m_judge_b202 F T cs1 u1 y0 v_12)
def m_judge_b366 (F : Nat) (T : TG_judge) (cs1 : RS) (u1 : Int32) : Option RS := m_judge_b539 F T cs1 u1 2
def m_judge_L334 (F : Nat) (T : TG_judge) : Nat → RS → Int32 → Int32 → Option RS
  | 0, _, _, _ => none
  | lf_334 + 1, cs1, u1, u4 => if u4 = (-1) then (m_judge_b366 F T cs1 u1) else (if (cs1.1 21) = 0 then (m_judge_b366 F T cs1 u1) else (Option.bind (m_want F cs1 u4 1) fun cs_15 => Option.bind (rdI (cs_15.2.2.1 32) 121 u4) fun v_16 => (m_judge_L334 F T lf_334) cs_15 u1 v_16))
def m_judge_b315 (F : Nat) (T : TG_judge) (cs1 : RS) (u1 : Int32) : Option RS := Option.bind (rdI (cs1.2.2.1 24) 121 u1) fun v_17 => Option.bind (m_want F cs1 v_17 1) fun cs_18 => Option.bind (rdI (cs_18.2.2.1 25) 121 u1) fun v_19 => m_judge_L334 F T F cs_18 u1 v_19
def m_judge_L284 (F : Nat) (T : TG_judge) : Nat → RS → Int32 → Int32 → Option RS
  | 0, _, _, _ => none
  | lf_284 + 1, cs1, u1, u4 => if u4 = (-1) then (m_judge_b315 F T cs1 u1) else (if (cs1.1 21) = 0 then (m_judge_b315 F T cs1 u1) else (Option.bind (T cs1 u4) fun cs_22 => Option.bind (rdI (cs_22.2.2.1 32) 121 u4) fun v_23 => (m_judge_L284 F T lf_284) cs_22 u1 v_23))
def m_judge_b437 (F : Nat) (T : TG_judge) (cs1 : RS) (u1 : Int32) (y0 : Int32) : Option RS := m_judge_b539 F T cs1 u1 y0
def m_judge_b426 (F : Nat) (T : TG_judge) (cs1 : RS) (u1 : Int32) (u2 : Int32) : Option RS := if u2 = 17 then (m_judge_b437 F T cs1 u1 1) else (m_judge_b437 F T cs1 u1 2)
def m_judge_b423 (F : Nat) (T : TG_judge) (cs1 : RS) (u1 : Int32) (u2 : Int32) (y0 : Int32) (y1 : Int32) : Option RS := Option.bind (m_want F cs1 y1 y0) fun cs_25 => m_judge_b426 F T cs_25 u1 u2
def m_judge_b389 (F : Nat) (T : TG_judge) (cs1 : RS) (u1 : Int32) (u2 : Int32) : Option RS := Option.bind (rdI (cs1.2.2.1 24) 121 u1) fun v_26 => Option.bind (T cs1 v_26) fun cs_27 => if u2 = 10 then (m_judge_b426 F T cs_27 u1 u2) else (Option.bind (rdI (cs_27.2.2.1 24) 121 u1) fun v_29 => if u2 = 8 then (m_judge_b423 F T cs_27 u1 u2 2 v_29) else (m_judge_b423 F T cs_27 u1 u2 1 v_29))
def m_judge_b538 (F : Nat) (T : TG_judge) (cs1 : RS) (u1 : Int32) (y0 : Int32) : Option RS := m_judge_b539 F T cs1 u1 y0
def m_judge_b533 (F : Nat) (T : TG_judge) (cs1 : RS) (u1 : Int32) : Option RS := m_judge_b538 F T cs1 u1 2
def m_judge_b489 (F : Nat) (T : TG_judge) (cs1 : RS) (u1 : Int32) (u2 : Int32) (y0 : Int32) : Option RS := Option.bind (rdI (cs1.2.2.1 24) 121 u1) fun v_31 => Option.bind (m_want F cs1 v_31 y0) fun cs_32 => Option.bind (rdI (cs_32.2.2.1 25) 121 u1) fun v_33 => Option.bind (m_want F cs_32 v_33 y0) fun cs_34 => if u2 = 6 then (m_judge_b533 F T cs_34 u1) else (if u2 = 7 then (m_judge_b533 F T cs_34 u1) else (if u2 = 9 then (m_judge_b533 F T cs_34 u1) else (m_judge_b538 F T cs_34 u1 1)))
def m_judge_b484 (F : Nat) (T : TG_judge) (cs1 : RS) (u1 : Int32) (u2 : Int32) : Option RS := m_judge_b489 F T cs1 u1 u2 2
def b_judge (F : Nat) (T : TG_judge) (cs : RS) (x1 : Int32) : Option RS := if (cs.1 21) = 0 then (some cs) else (Option.bind (rdI (cs.2.2.1 23) 121 x1) fun v_39 => if v_39 = 2 then (m_judge_b539 F T cs x1 0) else (if v_39 = 3 then (m_judge_b37 F T cs x1) else (if v_39 = 4 then (m_judge_b37 F T cs x1) else (if v_39 = 5 then (Option.bind (m_find F cs x1) fun z_77 => m_judge_b539 F T z_77.1 x1 z_77.2) else (if v_39 < 21 then (if v_39 = 18 then (Option.bind (rdI (cs.2.2.1 24) 121 x1) fun v_61 => Option.bind (T cs v_61) fun cs_62 => Option.bind (rdI (cs_62.2.2.1 25) 121 x1) fun v_63 => Option.bind (T cs_62 v_63) fun cs_64 => Option.bind (rdI (cs_64.2.2.1 26) 121 x1) fun v_65 => Option.bind (T cs_64 v_65) fun cs_66 => Option.bind (rdI (cs_66.2.2.1 24) 121 x1) fun v_67 => Option.bind (m_want F cs_66 v_67 2) fun cs_68 => if (cs_68.1 21) = 0 then (m_judge_b178 F T cs_68 x1 0) else (Option.bind (rdI (cs_68.2.2.1 25) 121 x1) fun v_70 => Option.bind (rdI (cs_68.2.2.1 31) 121 v_70) fun v_71 => m_judge_b178 F T cs_68 x1 v_71)) else (if v_39 = 11 then (Option.bind (rdI (cs.2.2.1 24) 121 x1) fun v_58 => Option.bind (T cs v_58) fun cs_59 => Option.bind (rdI (cs_59.2.2.1 25) 121 x1) fun v_60 => m_judge_L284 F T F cs_59 x1 v_60) else (if v_39 = 8 then (m_judge_b389 F T cs x1 v_39) else (if v_39 = 10 then (m_judge_b389 F T cs x1 v_39) else (if v_39 = 17 then (m_judge_b389 F T cs x1 v_39) else (if v_39 = 1 then (m_judge_b539 F T cs x1 1) else (if v_39 = 20 then (m_judge_b539 F T cs x1 1) else (Option.bind (rdI (cs.2.2.1 24) 121 x1) fun v_52 => Option.bind (T cs v_52) fun cs_53 => Option.bind (rdI (cs_53.2.2.1 25) 121 x1) fun v_54 => Option.bind (T cs_53 v_54) fun cs_55 => if v_39 = 6 then (m_judge_b484 F T cs_55 x1 v_39) else (if v_39 = 7 then (m_judge_b484 F T cs_55 x1 v_39) else (m_judge_b489 F T cs_55 x1 v_39 1)))))))))) else (Option.bind (rdI ((setF cs 76 0).2.2.1 24) 121 x1) fun v_72 => Option.bind (T (setF cs 76 0) v_72) fun cs_73 => if v_39 = 21 then (m_judge_b106 F T (setF cs_73 76 (cs.1 76)) x1 1) else (Option.bind (rdI ((setF cs_73 76 (cs.1 76)).2.2.1 24) 121 x1) fun v_75 => Option.bind (m_want F (setF cs_73 76 (cs.1 76)) v_75 1) fun cs_76 => m_judge_b106 F T cs_76 x1 1)))))))
def tab_judge (F : Nat) : Nat → TG_judge
  | 0 => (fun _ _ => none)
  | n + 1 => (b_judge F (tab_judge F n))
theorem cw_judge {R : Room} {s : State} {args : Array Value} {y0 : MethodName} {c0 : ByteArray} {n0 : Nat} {r0 : Option FieldType} (hts : ∀ w ∈ wsOf y0 c0 n0 r0, w.before args s = true) {fr : Nat} (h1 : fr + 1 ≤ R.frames) (h2 : 8 + (6 + 11) + 60 * fr ≤ R.locals) : CallW R s args RX12 RX12 537 yX12_judge cX12_judge 6 none (wsOf yX12_judge cX12_judge 6 none) ({ frames := fr, cells := 0, slots := 0, locals := 60 * fr } : Room) 0 0 1 := cwV 1 hts (gd_all (in_V kw_2435 kw_2437 kw_172 kw_191 kc_X12_judge)) rfl rfl rfl (by decide +kernel) ⟨h1, h2⟩
set_option maxHeartbeats 4000000 in
set_option maxRecDepth 100000 in
theorem sb_judge (l : Launch) (dC : Nat → ClassId) (dI : Nat → Nat → Nat) (cB cI cJ cZ : ClassId) (h0 : Nat) (a : Nat → Nat) (K V : Nat → Nat) (fz : Value) (F : Nat) (n : Nat) (T : TG_judge) (hT_judge : ∀ (cs : RS) (x1 : Int32) (cs9 : RS), T cs x1 = some cs9 → okV l dC dI cB cI cJ cZ h0 a K V fz yX12_judge (wsOf yX12_judge cX12_judge 6 none) (n + 9) [.ref h0, .int x1] cs cs9) (cs : RS) (x1 : Int32) (cs9 : RS) (hf : b_judge F T cs x1 = some cs9) : okV l dC dI cB cI cJ cZ h0 a K V fz yX12_judge (wsOf yX12_judge cX12_judge 6 none) (n + 1 + 9) [.ref h0, .int x1] cs cs9 := by
  intro sz
  refine Met.ofW (cc := cX12_judge) (maxL := 6) (ret := none) (by decide) rfl ?_
  intro p e s m args below meth c s₁ B hml hv
  obtain ⟨rfl, hsz, hP, hK, hD0, hZ⟩ := hv
  have hx := B.exec
  have hb := B.bytes
  have hr := B.returns
  have hts := atoms_spec (ws := (wsOf yX12_judge cX12_judge 6 none)) B.pre
  have hown : s.vm.findClass RX12 = some m.cls := findClass_of_methodNamed B.named
  have hlocks := B.notSynchronized
  subst hsz
  have hD := hD0.self (sz := s.heap.size)
  generalize hAe : va_A (mW cB cI cJ cZ h0 a cs) s.heap.size = A at hD hZ ⊢
  have hA : ∀ q : Nat, s.heap.size ≤ q → A q := fun q h => by rw [← hAe]; exact Or.inr h
  have hS : va_S A s.heap s.heap [] := va_S.rf
  have hl := lv_entry ([.ref h0, .int x1]) (n := 6) (Nat.le_of_ble_eq_true rfl)
  rw [lg_entry_eq]
  generalize (lg_sl ([.ref h0, .int x1]) ++ List.replicate (6 - (lg_sl ([.ref h0, .int x1])).length) Slot.unset).toArray = ls at hl ⊢
  have hl : lv_has ls 6 [(0, .ref h0), (1, .int x1)] := hl
  have B_539 : ∀ (cs1 : RS) (u1 : Int32) (u3 : Int32), m_judge_b539 F T cs1 u1 u3 = some cs9 → ∀ (H : Heap) (locs : List Loc) (ls : Array Slot), va_P (dC, dI) vwCl (mW cB cI cJ cZ h0 a cs1) H → va_D A (mW cB cI cJ cZ h0 a cs1) → va_S A s.heap H locs → lv_has ls 6 [(0, .ref h0), (1, .int u1), (3, .int u3)] → W p l e (headSpec (wsOf yX12_judge cX12_judge 6 none) ({ frames := n + 1 + 9, cells := 0, slots := 0, locals := 60 * (n + 1 + 9) } : Room)).room s m ([.ref h0, .int x1] : List Value).toArray below meth c H locs 0 0 (MQ below (va_Qv (fun (_ : Unit) => True) (fun _ t_ => va_P (dC, dI) vwCl (mW cB cI cJ cZ h0 a cs9) t_.heap ∧ va_D A (mW cB cI cJ cZ h0 a cs9)) A) ([.ref h0, .int x1] : List Value).toArray s 0 0 A) (F0 m 539 ls []) := by
    intro cs1 u1 u3 h H locs ls hP hD hS hl
    unfold m_judge_b539 at h
    refine lv_aload_n hx hb dX12_judge_539 rfl (lv_at hl 0 rfl) ?_
    refine fg_31 hx hb hts hown hK hP dX12_judge_540 ?_
    refine lv_iload_n hx hb dX12_judge_543 rfl (lv_at hl 1 rfl) ?_
    refine lv_iload_n hx hb dX12_judge_544 rfl (lv_at hl 2 rfl) ?_
    obtain ⟨cs_1, hv_1, h⟩ := ob h
    refine ap_31 hx hb hK hP hD hS hv_1 dX12_judge_545 (fun H locs hP hD hS => ?_)
    have e1 := Option.some.inj h
    rw [e1] at hP hD
    exact W.vret hx hb hr (fun t_ ht hW => ⟨⟨(), rfl, trivial, by rw [ht]; exact hP, hD⟩, hS.F ht⟩) hS.2.2 dX12_judge_546
  have B_37 : ∀ (cs1 : RS) (u1 : Int32), m_judge_b37 F T cs1 u1 = some cs9 → ∀ (H : Heap) (locs : List Loc) (ls : Array Slot), va_P (dC, dI) vwCl (mW cB cI cJ cZ h0 a cs1) H → va_D A (mW cB cI cJ cZ h0 a cs1) → va_S A s.heap H locs → lv_has ls 6 [(0, .ref h0), (1, .int u1)] → W p l e (headSpec (wsOf yX12_judge cX12_judge 6 none) ({ frames := n + 1 + 9, cells := 0, slots := 0, locals := 60 * (n + 1 + 9) } : Room)).room s m ([.ref h0, .int x1] : List Value).toArray below meth c H locs 0 0 (MQ below (va_Qv (fun (_ : Unit) => True) (fun _ t_ => va_P (dC, dI) vwCl (mW cB cI cJ cZ h0 a cs9) t_.heap ∧ va_D A (mW cB cI cJ cZ h0 a cs9)) A) ([.ref h0, .int x1] : List Value).toArray s 0 0 A) (F0 m 37 ls []) := by
    intro cs1 u1 h H locs ls hP hD hS hl
    unfold m_judge_b37 at h
    refine lv_iconst (v := 2) hx hb dX12_judge_37 (by decide) ?_
    refine lv_istore_n (lv' := [(3, .int 2), (0, .ref h0), (1, .int u1)]) hx hb dX12_judge_38 rfl hl (by decide) rfl (fun ls hl => ?_)
    refine lv_goto (tgt := 539) hx hb dX12_judge_39 (by decide) ?_
    exact B_539 cs1 u1 2 h _ _ _ hP hD hS (lv_sub hl [1, 2, 0] rfl)
  have B_106 : ∀ (cs1 : RS) (u1 : Int32) (u3 : Int32), m_judge_b106 F T cs1 u1 u3 = some cs9 → ∀ (H : Heap) (locs : List Loc) (ls : Array Slot), va_P (dC, dI) vwCl (mW cB cI cJ cZ h0 a cs1) H → va_D A (mW cB cI cJ cZ h0 a cs1) → va_S A s.heap H locs → lv_has ls 6 [(0, .ref h0), (1, .int u1), (3, .int u3)] → W p l e (headSpec (wsOf yX12_judge cX12_judge 6 none) ({ frames := n + 1 + 9, cells := 0, slots := 0, locals := 60 * (n + 1 + 9) } : Room)).room s m ([.ref h0, .int x1] : List Value).toArray below meth c H locs 0 0 (MQ below (va_Qv (fun (_ : Unit) => True) (fun _ t_ => va_P (dC, dI) vwCl (mW cB cI cJ cZ h0 a cs9) t_.heap ∧ va_D A (mW cB cI cJ cZ h0 a cs9)) A) ([.ref h0, .int x1] : List Value).toArray s 0 0 A) (F0 m 106 ls []) := by
    intro cs1 u1 u3 h H locs ls hP hD hS hl
    unfold m_judge_b106 at h
    refine lv_goto (tgt := 539) hx hb dX12_judge_106 (by decide) ?_
    exact B_539 cs1 u1 u3 h _ _ _ hP hD hS (lv_sub hl [0, 1, 2] rfl)
  have B_256 : ∀ (cs1 : RS) (u1 : Int32) (y0 : Int32), m_judge_b256 F T cs1 u1 y0 = some cs9 → ∀ (H : Heap) (locs : List Loc) (ls : Array Slot), va_P (dC, dI) vwCl (mW cB cI cJ cZ h0 a cs1) H → va_D A (mW cB cI cJ cZ h0 a cs1) → va_S A s.heap H locs → lv_has ls 6 [(0, .ref h0), (1, .int u1)] → W p l e (headSpec (wsOf yX12_judge cX12_judge 6 none) ({ frames := n + 1 + 9, cells := 0, slots := 0, locals := 60 * (n + 1 + 9) } : Room)).room s m ([.ref h0, .int x1] : List Value).toArray below meth c H locs 0 0 (MQ below (va_Qv (fun (_ : Unit) => True) (fun _ t_ => va_P (dC, dI) vwCl (mW cB cI cJ cZ h0 a cs9) t_.heap ∧ va_D A (mW cB cI cJ cZ h0 a cs9)) A) ([.ref h0, .int x1] : List Value).toArray s 0 0 A) (F0 m 256 ls [.int y0]) := by
    intro cs1 u1 y0 h H locs ls hP hD hS hl
    unfold m_judge_b256 at h
    refine lv_istore_n (lv' := [(3, .int y0), (0, .ref h0), (1, .int u1)]) hx hb dX12_judge_256 rfl hl (by decide) rfl (fun ls hl => ?_)
    refine lv_goto (tgt := 539) hx hb dX12_judge_257 (by decide) ?_
    exact B_539 cs1 u1 y0 h _ _ _ hP hD hS (lv_sub hl [1, 2, 0] rfl)
  have B_244 : ∀ (cs1 : RS) (u1 : Int32) (u4 : Int32) (u5 : Int32), m_judge_b244 F T cs1 u1 u4 u5 = some cs9 → ∀ (H : Heap) (locs : List Loc) (ls : Array Slot), va_P (dC, dI) vwCl (mW cB cI cJ cZ h0 a cs1) H → va_D A (mW cB cI cJ cZ h0 a cs1) → va_S A s.heap H locs → lv_has ls 6 [(0, .ref h0), (1, .int u1), (4, .int u4), (5, .int u5)] → W p l e (headSpec (wsOf yX12_judge cX12_judge 6 none) ({ frames := n + 1 + 9, cells := 0, slots := 0, locals := 60 * (n + 1 + 9) } : Room)).room s m ([.ref h0, .int x1] : List Value).toArray below meth c H locs 0 0 (MQ below (va_Qv (fun (_ : Unit) => True) (fun _ t_ => va_P (dC, dI) vwCl (mW cB cI cJ cZ h0 a cs9) t_.heap ∧ va_D A (mW cB cI cJ cZ h0 a cs9)) A) ([.ref h0, .int x1] : List Value).toArray s 0 0 A) (F0 m 244 ls []) := by
    intro cs1 u1 u4 u5 h H locs ls hP hD hS hl
    unfold m_judge_b244 at h
    refine lv_iload hx hb dX12_judge_244 (lv_at hl 2 rfl) ?_
    refine lv_if_ne (tgt := 254) hx hb dX12_judge_246 (by decide) (fun c_2 => ?_) (fun c_2 => ?_)
    · skip
      replace h := (if_neg c_2).symm.trans h
      refine lv_iload hx hb dX12_judge_254 (lv_at hl 2 rfl) ?_
      exact B_256 cs1 u1 u4 h _ _ _ hP hD hS (lv_sub hl [0, 1] rfl)
    · skip
      replace h := (if_pos c_2).symm.trans h
      refine lv_iload hx hb dX12_judge_249 (lv_at hl 3 rfl) ?_
      refine lv_goto (tgt := 256) hx hb dX12_judge_251 (by decide) ?_
      exact B_256 cs1 u1 u5 h _ _ _ hP hD hS (lv_sub hl [0, 1] rfl)
  have B_202 : ∀ (cs1 : RS) (u1 : Int32) (u4 : Int32) (y0 : Int32), m_judge_b202 F T cs1 u1 u4 y0 = some cs9 → ∀ (H : Heap) (locs : List Loc) (ls : Array Slot), va_P (dC, dI) vwCl (mW cB cI cJ cZ h0 a cs1) H → va_D A (mW cB cI cJ cZ h0 a cs1) → va_S A s.heap H locs → lv_has ls 6 [(0, .ref h0), (1, .int u1), (4, .int u4)] → W p l e (headSpec (wsOf yX12_judge cX12_judge 6 none) ({ frames := n + 1 + 9, cells := 0, slots := 0, locals := 60 * (n + 1 + 9) } : Room)).room s m ([.ref h0, .int x1] : List Value).toArray below meth c H locs 0 0 (MQ below (va_Qv (fun (_ : Unit) => True) (fun _ t_ => va_P (dC, dI) vwCl (mW cB cI cJ cZ h0 a cs9) t_.heap ∧ va_D A (mW cB cI cJ cZ h0 a cs9)) A) ([.ref h0, .int x1] : List Value).toArray s 0 0 A) (F0 m 202 ls [.int y0]) := by
    intro cs1 u1 u4 y0 h H locs ls hP hD hS hl
    unfold m_judge_b202 at h
    refine lv_istore (lv' := [(5, .int y0), (0, .ref h0), (1, .int u1), (4, .int u4)]) hx hb dX12_judge_202 hl (by decide) rfl (fun ls hl => ?_)
    refine lv_aload_n hx hb dX12_judge_204 rfl (lv_at hl 1 rfl) ?_
    refine fg_21 hx hb hts hown hK hP dX12_judge_205 ?_
    refine lv_if_eq (tgt := 244) hx hb dX12_judge_208 (by decide) (fun c_3 => ?_) (fun c_3 => ?_)
    · skip
      replace h := (if_pos c_3).symm.trans h
      exact B_244 cs1 u1 u4 y0 h _ _ _ hP hD hS (lv_sub hl [1, 2, 3, 0] rfl)
    · skip
      replace h := (if_neg c_3).symm.trans h
      refine lv_iload hx hb dX12_judge_211 (lv_at hl 3 rfl) ?_
      refine lv_if_eq (tgt := 244) hx hb dX12_judge_213 (by decide) (fun c_4 => ?_) (fun c_4 => ?_)
      · skip
        replace h := (if_pos c_4).symm.trans h
        exact B_244 cs1 u1 u4 y0 h _ _ _ hP hD hS (lv_sub hl [1, 2, 3, 0] rfl)
      · skip
        replace h := (if_neg c_4).symm.trans h
        refine lv_iload hx hb dX12_judge_216 (lv_at hl 0 rfl) ?_
        refine lv_if_eq (tgt := 244) hx hb dX12_judge_218 (by decide) (fun c_5 => ?_) (fun c_5 => ?_)
        · skip
          replace h := (if_pos c_5).symm.trans h
          exact B_244 cs1 u1 u4 y0 h _ _ _ hP hD hS (lv_sub hl [1, 2, 3, 0] rfl)
        · skip
          replace h := (if_neg c_5).symm.trans h
          refine lv_iload hx hb dX12_judge_221 (lv_at hl 3 rfl) ?_
          refine lv_iload hx hb dX12_judge_223 (lv_at hl 0 rfl) ?_
          refine lv_icmp_eq (tgt := 244) hx hb dX12_judge_225 (by decide) (fun c_6 => ?_) (fun c_6 => ?_)
          · skip
            replace h := (if_pos c_6).symm.trans h
            exact B_244 cs1 u1 u4 y0 h _ _ _ hP hD hS (lv_sub hl [1, 2, 3, 0] rfl)
          · skip
            replace h := (if_neg c_6).symm.trans h
            refine lv_aload_n hx hb dX12_judge_228 rfl (lv_at hl 1 rfl) ?_
            refine lv_iconst (v := 4) hx hb dX12_judge_229 (by decide) ?_
            refine lv_aload_n hx hb dX12_judge_230 rfl (lv_at hl 1 rfl) ?_
            refine fg_29 hx hb hts hown hK hP dX12_judge_231 ?_
            refine lv_aload_n hx hb dX12_judge_234 rfl (lv_at hl 1 rfl) ?_
            refine fg_26 hx hb hts hown hK hP dX12_judge_235 ?_
            refine lv_iload_n hx hb dX12_judge_238 rfl (lv_at hl 2 rfl) ?_
            obtain ⟨v_7, hv_7, h⟩ := ob h
            refine ag_26 hx hb hK hP hv_7 dX12_judge_239 ?_
            obtain ⟨v_8, hv_8, h⟩ := ob h
            refine ag_29 hx hb hK hP hv_8 dX12_judge_240 ?_
            obtain ⟨cs_9, hv_9, h⟩ := ob h
            refine calV (As := [.int 4, .int v_8]) hx hb hml hts hown hK hP hD hS hA hZ (s_tell l dC dI cB cI cJ cZ h0 a K V fz F cs1 4 v_8 cs_9 hv_9) (cw_tell hts (fr := 0) (by show 0 + 1 ≤ n + 1 + 9; omega) (by show 8 + (3 + 11) + 60 * (0) ≤ 60 * (n + 1 + 9); omega)) rfl hl.1 (Nat.le_of_ble_eq_true rfl) ⟨Nat.zero_le _, Nat.zero_le _⟩ dX12_judge_241 (fun H locs hP hD hS => ?_)
            exact B_244 cs_9 u1 u4 y0 h _ _ _ hP hD hS (lv_sub hl [1, 2, 3, 0] rfl)
  have B_178 : ∀ (cs1 : RS) (u1 : Int32) (y0 : Int32), m_judge_b178 F T cs1 u1 y0 = some cs9 → ∀ (H : Heap) (locs : List Loc) (ls : Array Slot), va_P (dC, dI) vwCl (mW cB cI cJ cZ h0 a cs1) H → va_D A (mW cB cI cJ cZ h0 a cs1) → va_S A s.heap H locs → lv_has ls 6 [(0, .ref h0), (1, .int u1)] → W p l e (headSpec (wsOf yX12_judge cX12_judge 6 none) ({ frames := n + 1 + 9, cells := 0, slots := 0, locals := 60 * (n + 1 + 9) } : Room)).room s m ([.ref h0, .int x1] : List Value).toArray below meth c H locs 0 0 (MQ below (va_Qv (fun (_ : Unit) => True) (fun _ t_ => va_P (dC, dI) vwCl (mW cB cI cJ cZ h0 a cs9) t_.heap ∧ va_D A (mW cB cI cJ cZ h0 a cs9)) A) ([.ref h0, .int x1] : List Value).toArray s 0 0 A) (F0 m 178 ls [.int y0]) := by
    intro cs1 u1 y0 h H locs ls hP hD hS hl
    unfold m_judge_b178 at h
    refine lv_istore (lv' := [(4, .int y0), (0, .ref h0), (1, .int u1)]) hx hb dX12_judge_178 hl (by decide) rfl (fun ls hl => ?_)
    refine lv_aload_n hx hb dX12_judge_180 rfl (lv_at hl 1 rfl) ?_
    refine fg_21 hx hb hts hown hK hP dX12_judge_181 ?_
    refine lv_if_eq (tgt := 201) hx hb dX12_judge_184 (by decide) (fun c_10 => ?_) (fun c_10 => ?_)
    · skip
      replace h := (if_pos c_10).symm.trans h
      refine lv_iconst (v := 0) hx hb dX12_judge_201 (by decide) ?_
      exact B_202 cs1 u1 y0 0 h _ _ _ hP hD hS (lv_sub hl [1, 2, 0] rfl)
    · skip
      replace h := (if_neg c_10).symm.trans h
      refine lv_aload_n hx hb dX12_judge_187 rfl (lv_at hl 1 rfl) ?_
      refine fg_31 hx hb hts hown hK hP dX12_judge_188 ?_
      refine lv_aload_n hx hb dX12_judge_191 rfl (lv_at hl 1 rfl) ?_
      refine fg_26 hx hb hts hown hK hP dX12_judge_192 ?_
      refine lv_iload_n hx hb dX12_judge_195 rfl (lv_at hl 2 rfl) ?_
      obtain ⟨v_11, hv_11, h⟩ := ob h
      refine ag_26 hx hb hK hP hv_11 dX12_judge_196 ?_
      obtain ⟨v_12, hv_12, h⟩ := ob h
      refine ag_31 hx hb hK hP hv_12 dX12_judge_197 ?_
      refine lv_goto (tgt := 202) hx hb dX12_judge_198 (by decide) ?_
      exact B_202 cs1 u1 y0 v_12 h _ _ _ hP hD hS (lv_sub hl [1, 2, 0] rfl)
  have B_366 : ∀ (cs1 : RS) (u1 : Int32), m_judge_b366 F T cs1 u1 = some cs9 → ∀ (H : Heap) (locs : List Loc) (ls : Array Slot), va_P (dC, dI) vwCl (mW cB cI cJ cZ h0 a cs1) H → va_D A (mW cB cI cJ cZ h0 a cs1) → va_S A s.heap H locs → lv_has ls 6 [(0, .ref h0), (1, .int u1)] → W p l e (headSpec (wsOf yX12_judge cX12_judge 6 none) ({ frames := n + 1 + 9, cells := 0, slots := 0, locals := 60 * (n + 1 + 9) } : Room)).room s m ([.ref h0, .int x1] : List Value).toArray below meth c H locs 0 0 (MQ below (va_Qv (fun (_ : Unit) => True) (fun _ t_ => va_P (dC, dI) vwCl (mW cB cI cJ cZ h0 a cs9) t_.heap ∧ va_D A (mW cB cI cJ cZ h0 a cs9)) A) ([.ref h0, .int x1] : List Value).toArray s 0 0 A) (F0 m 366 ls []) := by
    intro cs1 u1 h H locs ls hP hD hS hl
    unfold m_judge_b366 at h
    refine lv_iconst (v := 2) hx hb dX12_judge_366 (by decide) ?_
    refine lv_istore_n (lv' := [(3, .int 2), (0, .ref h0), (1, .int u1)]) hx hb dX12_judge_367 rfl hl (by decide) rfl (fun ls hl => ?_)
    refine lv_goto (tgt := 539) hx hb dX12_judge_368 (by decide) ?_
    exact B_539 cs1 u1 2 h _ _ _ hP hD hS (lv_sub hl [1, 2, 0] rfl)
  have L_334 : ∀ (lf_334 : Nat), ∀ (cs1 : RS) (u1 : Int32) (u4 : Int32), m_judge_L334 F T lf_334 cs1 u1 u4 = some cs9 → ∀ (H : Heap) (locs : List Loc) (ls : Array Slot), va_P (dC, dI) vwCl (mW cB cI cJ cZ h0 a cs1) H → va_D A (mW cB cI cJ cZ h0 a cs1) → va_S A s.heap H locs → lv_has ls 6 [(0, .ref h0), (1, .int u1), (4, .int u4)] → W p l e (headSpec (wsOf yX12_judge cX12_judge 6 none) ({ frames := n + 1 + 9, cells := 0, slots := 0, locals := 60 * (n + 1 + 9) } : Room)).room s m ([.ref h0, .int x1] : List Value).toArray below meth c H locs 0 0 (MQ below (va_Qv (fun (_ : Unit) => True) (fun _ t_ => va_P (dC, dI) vwCl (mW cB cI cJ cZ h0 a cs9) t_.heap ∧ va_D A (mW cB cI cJ cZ h0 a cs9)) A) ([.ref h0, .int x1] : List Value).toArray s 0 0 A) (F0 m 334 ls []) := by
    intro lf_334
    induction lf_334 with
    | zero => intro cs1 u1 u4 h; cases (show (none : Option RS) = _ from h)
    | succ lf_334 ih_334 =>
      intro cs1 u1 u4 h H locs ls hP hD hS hl
      rw [m_judge_L334] at h
      refine lv_iload hx hb dX12_judge_334 (lv_at hl 2 rfl) ?_
      refine lv_iconst (v := (-1)) hx hb dX12_judge_336 (by decide) ?_
      refine lv_icmp_eq (tgt := 366) hx hb dX12_judge_337 (by decide) (fun c_13 => ?_) (fun c_13 => ?_)
      · skip
        replace h := (if_pos c_13).symm.trans h
        exact B_366 cs1 u1 h _ _ _ hP hD hS (lv_sub hl [0, 1] rfl)
      · skip
        replace h := (if_neg c_13).symm.trans h
        refine lv_aload_n hx hb dX12_judge_340 rfl (lv_at hl 0 rfl) ?_
        refine fg_21 hx hb hts hown hK hP dX12_judge_341 ?_
        refine lv_if_eq (tgt := 366) hx hb dX12_judge_344 (by decide) (fun c_14 => ?_) (fun c_14 => ?_)
        · skip
          replace h := (if_pos c_14).symm.trans h
          exact B_366 cs1 u1 h _ _ _ hP hD hS (lv_sub hl [0, 1] rfl)
        · skip
          replace h := (if_neg c_14).symm.trans h
          refine lv_aload_n hx hb dX12_judge_347 rfl (lv_at hl 0 rfl) ?_
          refine lv_iload hx hb dX12_judge_348 (lv_at hl 2 rfl) ?_
          refine lv_iconst (v := 1) hx hb dX12_judge_350 (by decide) ?_
          obtain ⟨cs_15, hv_15, h⟩ := ob h
          refine calV (As := [.int u4, .int 1]) hx hb hml hts hown hK hP hD hS hA hZ (s_want l dC dI cB cI cJ cZ h0 a K V fz F cs1 u4 1 cs_15 hv_15) (cw_want hts (fr := 1) (by show 1 + 1 ≤ n + 1 + 9; omega) (by show 8 + (3 + 11) + 60 * (1) ≤ 60 * (n + 1 + 9); omega)) rfl hl.1 (Nat.le_of_ble_eq_true rfl) ⟨Nat.zero_le _, Nat.zero_le _⟩ dX12_judge_351 (fun H locs hP hD hS => ?_)
          refine lv_aload_n hx hb dX12_judge_354 rfl (lv_at hl 0 rfl) ?_
          refine fg_32 hx hb hts hown hK hP dX12_judge_355 ?_
          refine lv_iload hx hb dX12_judge_358 (lv_at hl 2 rfl) ?_
          obtain ⟨v_16, hv_16, h⟩ := ob h
          refine ag_32 hx hb hK hP hv_16 dX12_judge_360 ?_
          refine lv_istore (lv' := [(4, .int v_16), (0, .ref h0), (1, .int u1)]) hx hb dX12_judge_361 hl (by decide) rfl (fun ls hl => ?_)
          refine lv_goto (tgt := 334) hx hb dX12_judge_363 (by decide) ?_
          exact ih_334 cs_15 u1 v_16 h _ _ _ hP hD hS (lv_sub hl [1, 2, 0] rfl)
  have B_315 : ∀ (cs1 : RS) (u1 : Int32), m_judge_b315 F T cs1 u1 = some cs9 → ∀ (H : Heap) (locs : List Loc) (ls : Array Slot), va_P (dC, dI) vwCl (mW cB cI cJ cZ h0 a cs1) H → va_D A (mW cB cI cJ cZ h0 a cs1) → va_S A s.heap H locs → lv_has ls 6 [(0, .ref h0), (1, .int u1)] → W p l e (headSpec (wsOf yX12_judge cX12_judge 6 none) ({ frames := n + 1 + 9, cells := 0, slots := 0, locals := 60 * (n + 1 + 9) } : Room)).room s m ([.ref h0, .int x1] : List Value).toArray below meth c H locs 0 0 (MQ below (va_Qv (fun (_ : Unit) => True) (fun _ t_ => va_P (dC, dI) vwCl (mW cB cI cJ cZ h0 a cs9) t_.heap ∧ va_D A (mW cB cI cJ cZ h0 a cs9)) A) ([.ref h0, .int x1] : List Value).toArray s 0 0 A) (F0 m 315 ls []) := by
    intro cs1 u1 h H locs ls hP hD hS hl
    unfold m_judge_b315 at h
    refine lv_aload_n hx hb dX12_judge_315 rfl (lv_at hl 0 rfl) ?_
    refine lv_aload_n hx hb dX12_judge_316 rfl (lv_at hl 0 rfl) ?_
    refine fg_24 hx hb hts hown hK hP dX12_judge_317 ?_
    refine lv_iload_n hx hb dX12_judge_320 rfl (lv_at hl 1 rfl) ?_
    obtain ⟨v_17, hv_17, h⟩ := ob h
    refine ag_24 hx hb hK hP hv_17 dX12_judge_321 ?_
    refine lv_iconst (v := 1) hx hb dX12_judge_322 (by decide) ?_
    obtain ⟨cs_18, hv_18, h⟩ := ob h
    refine calV (As := [.int v_17, .int 1]) hx hb hml hts hown hK hP hD hS hA hZ (s_want l dC dI cB cI cJ cZ h0 a K V fz F cs1 v_17 1 cs_18 hv_18) (cw_want hts (fr := 1) (by show 1 + 1 ≤ n + 1 + 9; omega) (by show 8 + (3 + 11) + 60 * (1) ≤ 60 * (n + 1 + 9); omega)) rfl hl.1 (Nat.le_of_ble_eq_true rfl) ⟨Nat.zero_le _, Nat.zero_le _⟩ dX12_judge_323 (fun H locs hP hD hS => ?_)
    refine lv_aload_n hx hb dX12_judge_326 rfl (lv_at hl 0 rfl) ?_
    refine fg_25 hx hb hts hown hK hP dX12_judge_327 ?_
    refine lv_iload_n hx hb dX12_judge_330 rfl (lv_at hl 1 rfl) ?_
    obtain ⟨v_19, hv_19, h⟩ := ob h
    refine ag_25 hx hb hK hP hv_19 dX12_judge_331 ?_
    refine lv_istore (lv' := [(4, .int v_19), (0, .ref h0), (1, .int u1)]) hx hb dX12_judge_332 hl (by decide) rfl (fun ls hl => ?_)
    exact L_334 F cs_18 u1 v_19 h _ _ _ hP hD hS (lv_sub hl [1, 2, 0] rfl)
  have L_284 : ∀ (lf_284 : Nat), ∀ (cs1 : RS) (u1 : Int32) (u4 : Int32), m_judge_L284 F T lf_284 cs1 u1 u4 = some cs9 → ∀ (H : Heap) (locs : List Loc) (ls : Array Slot), va_P (dC, dI) vwCl (mW cB cI cJ cZ h0 a cs1) H → va_D A (mW cB cI cJ cZ h0 a cs1) → va_S A s.heap H locs → lv_has ls 6 [(0, .ref h0), (1, .int u1), (4, .int u4)] → W p l e (headSpec (wsOf yX12_judge cX12_judge 6 none) ({ frames := n + 1 + 9, cells := 0, slots := 0, locals := 60 * (n + 1 + 9) } : Room)).room s m ([.ref h0, .int x1] : List Value).toArray below meth c H locs 0 0 (MQ below (va_Qv (fun (_ : Unit) => True) (fun _ t_ => va_P (dC, dI) vwCl (mW cB cI cJ cZ h0 a cs9) t_.heap ∧ va_D A (mW cB cI cJ cZ h0 a cs9)) A) ([.ref h0, .int x1] : List Value).toArray s 0 0 A) (F0 m 284 ls []) := by
    intro lf_284
    induction lf_284 with
    | zero => intro cs1 u1 u4 h; cases (show (none : Option RS) = _ from h)
    | succ lf_284 ih_284 =>
      intro cs1 u1 u4 h H locs ls hP hD hS hl
      rw [m_judge_L284] at h
      refine lv_iload hx hb dX12_judge_284 (lv_at hl 2 rfl) ?_
      refine lv_iconst (v := (-1)) hx hb dX12_judge_286 (by decide) ?_
      refine lv_icmp_eq (tgt := 315) hx hb dX12_judge_287 (by decide) (fun c_20 => ?_) (fun c_20 => ?_)
      · skip
        replace h := (if_pos c_20).symm.trans h
        exact B_315 cs1 u1 h _ _ _ hP hD hS (lv_sub hl [0, 1] rfl)
      · skip
        replace h := (if_neg c_20).symm.trans h
        refine lv_aload_n hx hb dX12_judge_290 rfl (lv_at hl 0 rfl) ?_
        refine fg_21 hx hb hts hown hK hP dX12_judge_291 ?_
        refine lv_if_eq (tgt := 315) hx hb dX12_judge_294 (by decide) (fun c_21 => ?_) (fun c_21 => ?_)
        · skip
          replace h := (if_pos c_21).symm.trans h
          exact B_315 cs1 u1 h _ _ _ hP hD hS (lv_sub hl [0, 1] rfl)
        · skip
          replace h := (if_neg c_21).symm.trans h
          refine lv_aload_n hx hb dX12_judge_297 rfl (lv_at hl 0 rfl) ?_
          refine lv_iload hx hb dX12_judge_298 (lv_at hl 2 rfl) ?_
          obtain ⟨cs_22, hv_22, h⟩ := ob h
          refine calV (As := [.int u4]) hx hb hml hts hown hK hP hD hS hA hZ (hT_judge cs1 u4 cs_22 hv_22) (cw_judge hts (fr := n + 9) (by show n + 9 + 1 ≤ n + 1 + 9; omega) (by show 8 + (6 + 11) + 60 * (n + 9) ≤ 60 * (n + 1 + 9); omega)) rfl hl.1 (Nat.le_of_ble_eq_true rfl) ⟨Nat.zero_le _, Nat.zero_le _⟩ dX12_judge_300 (fun H locs hP hD hS => ?_)
          refine lv_aload_n hx hb dX12_judge_303 rfl (lv_at hl 0 rfl) ?_
          refine fg_32 hx hb hts hown hK hP dX12_judge_304 ?_
          refine lv_iload hx hb dX12_judge_307 (lv_at hl 2 rfl) ?_
          obtain ⟨v_23, hv_23, h⟩ := ob h
          refine ag_32 hx hb hK hP hv_23 dX12_judge_309 ?_
          refine lv_istore (lv' := [(4, .int v_23), (0, .ref h0), (1, .int u1)]) hx hb dX12_judge_310 hl (by decide) rfl (fun ls hl => ?_)
          refine lv_goto (tgt := 284) hx hb dX12_judge_312 (by decide) ?_
          exact ih_284 cs_22 u1 v_23 h _ _ _ hP hD hS (lv_sub hl [1, 2, 0] rfl)
  have B_437 : ∀ (cs1 : RS) (u1 : Int32) (y0 : Int32), m_judge_b437 F T cs1 u1 y0 = some cs9 → ∀ (H : Heap) (locs : List Loc) (ls : Array Slot), va_P (dC, dI) vwCl (mW cB cI cJ cZ h0 a cs1) H → va_D A (mW cB cI cJ cZ h0 a cs1) → va_S A s.heap H locs → lv_has ls 6 [(0, .ref h0), (1, .int u1)] → W p l e (headSpec (wsOf yX12_judge cX12_judge 6 none) ({ frames := n + 1 + 9, cells := 0, slots := 0, locals := 60 * (n + 1 + 9) } : Room)).room s m ([.ref h0, .int x1] : List Value).toArray below meth c H locs 0 0 (MQ below (va_Qv (fun (_ : Unit) => True) (fun _ t_ => va_P (dC, dI) vwCl (mW cB cI cJ cZ h0 a cs9) t_.heap ∧ va_D A (mW cB cI cJ cZ h0 a cs9)) A) ([.ref h0, .int x1] : List Value).toArray s 0 0 A) (F0 m 437 ls [.int y0]) := by
    intro cs1 u1 y0 h H locs ls hP hD hS hl
    unfold m_judge_b437 at h
    refine lv_istore_n (lv' := [(3, .int y0), (0, .ref h0), (1, .int u1)]) hx hb dX12_judge_437 rfl hl (by decide) rfl (fun ls hl => ?_)
    refine lv_goto (tgt := 539) hx hb dX12_judge_438 (by decide) ?_
    exact B_539 cs1 u1 y0 h _ _ _ hP hD hS (lv_sub hl [1, 2, 0] rfl)
  have B_426 : ∀ (cs1 : RS) (u1 : Int32) (u2 : Int32), m_judge_b426 F T cs1 u1 u2 = some cs9 → ∀ (H : Heap) (locs : List Loc) (ls : Array Slot), va_P (dC, dI) vwCl (mW cB cI cJ cZ h0 a cs1) H → va_D A (mW cB cI cJ cZ h0 a cs1) → va_S A s.heap H locs → lv_has ls 6 [(0, .ref h0), (1, .int u1), (2, .int u2)] → W p l e (headSpec (wsOf yX12_judge cX12_judge 6 none) ({ frames := n + 1 + 9, cells := 0, slots := 0, locals := 60 * (n + 1 + 9) } : Room)).room s m ([.ref h0, .int x1] : List Value).toArray below meth c H locs 0 0 (MQ below (va_Qv (fun (_ : Unit) => True) (fun _ t_ => va_P (dC, dI) vwCl (mW cB cI cJ cZ h0 a cs9) t_.heap ∧ va_D A (mW cB cI cJ cZ h0 a cs9)) A) ([.ref h0, .int x1] : List Value).toArray s 0 0 A) (F0 m 426 ls []) := by
    intro cs1 u1 u2 h H locs ls hP hD hS hl
    unfold m_judge_b426 at h
    refine lv_iload_n hx hb dX12_judge_426 rfl (lv_at hl 2 rfl) ?_
    refine lv_bipush (v := 17) hx hb dX12_judge_427 (by decide) ?_
    refine lv_icmp_ne (tgt := 436) hx hb dX12_judge_429 (by decide) (fun c_24 => ?_) (fun c_24 => ?_)
    · skip
      replace h := (if_neg c_24).symm.trans h
      refine lv_iconst (v := 2) hx hb dX12_judge_436 (by decide) ?_
      exact B_437 cs1 u1 2 h _ _ _ hP hD hS (lv_sub hl [0, 1] rfl)
    · skip
      replace h := (if_pos c_24).symm.trans h
      refine lv_iconst (v := 1) hx hb dX12_judge_432 (by decide) ?_
      refine lv_goto (tgt := 437) hx hb dX12_judge_433 (by decide) ?_
      exact B_437 cs1 u1 1 h _ _ _ hP hD hS (lv_sub hl [0, 1] rfl)
  have B_423 : ∀ (cs1 : RS) (u1 : Int32) (u2 : Int32) (y0 : Int32) (y1 : Int32), m_judge_b423 F T cs1 u1 u2 y0 y1 = some cs9 → ∀ (H : Heap) (locs : List Loc) (ls : Array Slot), va_P (dC, dI) vwCl (mW cB cI cJ cZ h0 a cs1) H → va_D A (mW cB cI cJ cZ h0 a cs1) → va_S A s.heap H locs → lv_has ls 6 [(0, .ref h0), (1, .int u1), (2, .int u2)] → W p l e (headSpec (wsOf yX12_judge cX12_judge 6 none) ({ frames := n + 1 + 9, cells := 0, slots := 0, locals := 60 * (n + 1 + 9) } : Room)).room s m ([.ref h0, .int x1] : List Value).toArray below meth c H locs 0 0 (MQ below (va_Qv (fun (_ : Unit) => True) (fun _ t_ => va_P (dC, dI) vwCl (mW cB cI cJ cZ h0 a cs9) t_.heap ∧ va_D A (mW cB cI cJ cZ h0 a cs9)) A) ([.ref h0, .int x1] : List Value).toArray s 0 0 A) (F0 m 423 ls [.int y0, .int y1, .ref h0]) := by
    intro cs1 u1 u2 y0 y1 h H locs ls hP hD hS hl
    unfold m_judge_b423 at h
    obtain ⟨cs_25, hv_25, h⟩ := ob h
    refine calV (As := [.int y1, .int y0]) hx hb hml hts hown hK hP hD hS hA hZ (s_want l dC dI cB cI cJ cZ h0 a K V fz F cs1 y1 y0 cs_25 hv_25) (cw_want hts (fr := 1) (by show 1 + 1 ≤ n + 1 + 9; omega) (by show 8 + (3 + 11) + 60 * (1) ≤ 60 * (n + 1 + 9); omega)) rfl hl.1 (Nat.le_of_ble_eq_true rfl) ⟨Nat.zero_le _, Nat.zero_le _⟩ dX12_judge_423 (fun H locs hP hD hS => ?_)
    exact B_426 cs_25 u1 u2 h _ _ _ hP hD hS (lv_sub hl [0, 1, 2] rfl)
  have B_389 : ∀ (cs1 : RS) (u1 : Int32) (u2 : Int32), m_judge_b389 F T cs1 u1 u2 = some cs9 → ∀ (H : Heap) (locs : List Loc) (ls : Array Slot), va_P (dC, dI) vwCl (mW cB cI cJ cZ h0 a cs1) H → va_D A (mW cB cI cJ cZ h0 a cs1) → va_S A s.heap H locs → lv_has ls 6 [(0, .ref h0), (1, .int u1), (2, .int u2)] → W p l e (headSpec (wsOf yX12_judge cX12_judge 6 none) ({ frames := n + 1 + 9, cells := 0, slots := 0, locals := 60 * (n + 1 + 9) } : Room)).room s m ([.ref h0, .int x1] : List Value).toArray below meth c H locs 0 0 (MQ below (va_Qv (fun (_ : Unit) => True) (fun _ t_ => va_P (dC, dI) vwCl (mW cB cI cJ cZ h0 a cs9) t_.heap ∧ va_D A (mW cB cI cJ cZ h0 a cs9)) A) ([.ref h0, .int x1] : List Value).toArray s 0 0 A) (F0 m 389 ls []) := by
    intro cs1 u1 u2 h H locs ls hP hD hS hl
    unfold m_judge_b389 at h
    refine lv_aload_n hx hb dX12_judge_389 rfl (lv_at hl 0 rfl) ?_
    refine lv_aload_n hx hb dX12_judge_390 rfl (lv_at hl 0 rfl) ?_
    refine fg_24 hx hb hts hown hK hP dX12_judge_391 ?_
    refine lv_iload_n hx hb dX12_judge_394 rfl (lv_at hl 1 rfl) ?_
    obtain ⟨v_26, hv_26, h⟩ := ob h
    refine ag_24 hx hb hK hP hv_26 dX12_judge_395 ?_
    obtain ⟨cs_27, hv_27, h⟩ := ob h
    refine calV (As := [.int v_26]) hx hb hml hts hown hK hP hD hS hA hZ (hT_judge cs1 v_26 cs_27 hv_27) (cw_judge hts (fr := n + 9) (by show n + 9 + 1 ≤ n + 1 + 9; omega) (by show 8 + (6 + 11) + 60 * (n + 9) ≤ 60 * (n + 1 + 9); omega)) rfl hl.1 (Nat.le_of_ble_eq_true rfl) ⟨Nat.zero_le _, Nat.zero_le _⟩ dX12_judge_396 (fun H locs hP hD hS => ?_)
    refine lv_iload_n hx hb dX12_judge_399 rfl (lv_at hl 2 rfl) ?_
    refine lv_bipush (v := 10) hx hb dX12_judge_400 (by decide) ?_
    refine lv_icmp_eq (tgt := 426) hx hb dX12_judge_402 (by decide) (fun c_28 => ?_) (fun c_28 => ?_)
    · skip
      replace h := (if_pos c_28).symm.trans h
      exact B_426 cs_27 u1 u2 h _ _ _ hP hD hS (lv_sub hl [0, 1, 2] rfl)
    · skip
      replace h := (if_neg c_28).symm.trans h
      refine lv_aload_n hx hb dX12_judge_405 rfl (lv_at hl 0 rfl) ?_
      refine lv_aload_n hx hb dX12_judge_406 rfl (lv_at hl 0 rfl) ?_
      refine fg_24 hx hb hts hown hK hP dX12_judge_407 ?_
      refine lv_iload_n hx hb dX12_judge_410 rfl (lv_at hl 1 rfl) ?_
      obtain ⟨v_29, hv_29, h⟩ := ob h
      refine ag_24 hx hb hK hP hv_29 dX12_judge_411 ?_
      refine lv_iload_n hx hb dX12_judge_412 rfl (lv_at hl 2 rfl) ?_
      refine lv_bipush (v := 8) hx hb dX12_judge_413 (by decide) ?_
      refine lv_icmp_ne (tgt := 422) hx hb dX12_judge_415 (by decide) (fun c_30 => ?_) (fun c_30 => ?_)
      · skip
        replace h := (if_neg c_30).symm.trans h
        refine lv_iconst (v := 1) hx hb dX12_judge_422 (by decide) ?_
        exact B_423 cs_27 u1 u2 1 v_29 h _ _ _ hP hD hS (lv_sub hl [0, 1, 2] rfl)
      · skip
        replace h := (if_pos c_30).symm.trans h
        refine lv_iconst (v := 2) hx hb dX12_judge_418 (by decide) ?_
        refine lv_goto (tgt := 423) hx hb dX12_judge_419 (by decide) ?_
        exact B_423 cs_27 u1 u2 2 v_29 h _ _ _ hP hD hS (lv_sub hl [0, 1, 2] rfl)
  have B_538 : ∀ (cs1 : RS) (u1 : Int32) (y0 : Int32), m_judge_b538 F T cs1 u1 y0 = some cs9 → ∀ (H : Heap) (locs : List Loc) (ls : Array Slot), va_P (dC, dI) vwCl (mW cB cI cJ cZ h0 a cs1) H → va_D A (mW cB cI cJ cZ h0 a cs1) → va_S A s.heap H locs → lv_has ls 6 [(0, .ref h0), (1, .int u1)] → W p l e (headSpec (wsOf yX12_judge cX12_judge 6 none) ({ frames := n + 1 + 9, cells := 0, slots := 0, locals := 60 * (n + 1 + 9) } : Room)).room s m ([.ref h0, .int x1] : List Value).toArray below meth c H locs 0 0 (MQ below (va_Qv (fun (_ : Unit) => True) (fun _ t_ => va_P (dC, dI) vwCl (mW cB cI cJ cZ h0 a cs9) t_.heap ∧ va_D A (mW cB cI cJ cZ h0 a cs9)) A) ([.ref h0, .int x1] : List Value).toArray s 0 0 A) (F0 m 538 ls [.int y0]) := by
    intro cs1 u1 y0 h H locs ls hP hD hS hl
    unfold m_judge_b538 at h
    refine lv_istore_n (lv' := [(3, .int y0), (0, .ref h0), (1, .int u1)]) hx hb dX12_judge_538 rfl hl (by decide) rfl (fun ls hl => ?_)
    exact B_539 cs1 u1 y0 h _ _ _ hP hD hS (lv_sub hl [1, 2, 0] rfl)
  have B_533 : ∀ (cs1 : RS) (u1 : Int32), m_judge_b533 F T cs1 u1 = some cs9 → ∀ (H : Heap) (locs : List Loc) (ls : Array Slot), va_P (dC, dI) vwCl (mW cB cI cJ cZ h0 a cs1) H → va_D A (mW cB cI cJ cZ h0 a cs1) → va_S A s.heap H locs → lv_has ls 6 [(0, .ref h0), (1, .int u1)] → W p l e (headSpec (wsOf yX12_judge cX12_judge 6 none) ({ frames := n + 1 + 9, cells := 0, slots := 0, locals := 60 * (n + 1 + 9) } : Room)).room s m ([.ref h0, .int x1] : List Value).toArray below meth c H locs 0 0 (MQ below (va_Qv (fun (_ : Unit) => True) (fun _ t_ => va_P (dC, dI) vwCl (mW cB cI cJ cZ h0 a cs9) t_.heap ∧ va_D A (mW cB cI cJ cZ h0 a cs9)) A) ([.ref h0, .int x1] : List Value).toArray s 0 0 A) (F0 m 533 ls []) := by
    intro cs1 u1 h H locs ls hP hD hS hl
    unfold m_judge_b533 at h
    refine lv_iconst (v := 2) hx hb dX12_judge_533 (by decide) ?_
    refine lv_goto (tgt := 538) hx hb dX12_judge_534 (by decide) ?_
    exact B_538 cs1 u1 2 h _ _ _ hP hD hS (lv_sub hl [0, 1] rfl)
  have B_489 : ∀ (cs1 : RS) (u1 : Int32) (u2 : Int32) (y0 : Int32), m_judge_b489 F T cs1 u1 u2 y0 = some cs9 → ∀ (H : Heap) (locs : List Loc) (ls : Array Slot), va_P (dC, dI) vwCl (mW cB cI cJ cZ h0 a cs1) H → va_D A (mW cB cI cJ cZ h0 a cs1) → va_S A s.heap H locs → lv_has ls 6 [(0, .ref h0), (1, .int u1), (2, .int u2)] → W p l e (headSpec (wsOf yX12_judge cX12_judge 6 none) ({ frames := n + 1 + 9, cells := 0, slots := 0, locals := 60 * (n + 1 + 9) } : Room)).room s m ([.ref h0, .int x1] : List Value).toArray below meth c H locs 0 0 (MQ below (va_Qv (fun (_ : Unit) => True) (fun _ t_ => va_P (dC, dI) vwCl (mW cB cI cJ cZ h0 a cs9) t_.heap ∧ va_D A (mW cB cI cJ cZ h0 a cs9)) A) ([.ref h0, .int x1] : List Value).toArray s 0 0 A) (F0 m 489 ls [.int y0]) := by
    intro cs1 u1 u2 y0 h H locs ls hP hD hS hl
    unfold m_judge_b489 at h
    refine lv_istore (lv' := [(4, .int y0), (0, .ref h0), (1, .int u1), (2, .int u2)]) hx hb dX12_judge_489 hl (by decide) rfl (fun ls hl => ?_)
    refine lv_aload_n hx hb dX12_judge_491 rfl (lv_at hl 1 rfl) ?_
    refine lv_aload_n hx hb dX12_judge_492 rfl (lv_at hl 1 rfl) ?_
    refine fg_24 hx hb hts hown hK hP dX12_judge_493 ?_
    refine lv_iload_n hx hb dX12_judge_496 rfl (lv_at hl 2 rfl) ?_
    obtain ⟨v_31, hv_31, h⟩ := ob h
    refine ag_24 hx hb hK hP hv_31 dX12_judge_497 ?_
    refine lv_iload hx hb dX12_judge_498 (lv_at hl 0 rfl) ?_
    obtain ⟨cs_32, hv_32, h⟩ := ob h
    refine calV (As := [.int v_31, .int y0]) hx hb hml hts hown hK hP hD hS hA hZ (s_want l dC dI cB cI cJ cZ h0 a K V fz F cs1 v_31 y0 cs_32 hv_32) (cw_want hts (fr := 1) (by show 1 + 1 ≤ n + 1 + 9; omega) (by show 8 + (3 + 11) + 60 * (1) ≤ 60 * (n + 1 + 9); omega)) rfl hl.1 (Nat.le_of_ble_eq_true rfl) ⟨Nat.zero_le _, Nat.zero_le _⟩ dX12_judge_500 (fun H locs hP hD hS => ?_)
    refine lv_aload_n hx hb dX12_judge_503 rfl (lv_at hl 1 rfl) ?_
    refine lv_aload_n hx hb dX12_judge_504 rfl (lv_at hl 1 rfl) ?_
    refine fg_25 hx hb hts hown hK hP dX12_judge_505 ?_
    refine lv_iload_n hx hb dX12_judge_508 rfl (lv_at hl 2 rfl) ?_
    obtain ⟨v_33, hv_33, h⟩ := ob h
    refine ag_25 hx hb hK hP hv_33 dX12_judge_509 ?_
    refine lv_iload hx hb dX12_judge_510 (lv_at hl 0 rfl) ?_
    obtain ⟨cs_34, hv_34, h⟩ := ob h
    refine calV (As := [.int v_33, .int y0]) hx hb hml hts hown hK hP hD hS hA hZ (s_want l dC dI cB cI cJ cZ h0 a K V fz F cs_32 v_33 y0 cs_34 hv_34) (cw_want hts (fr := 1) (by show 1 + 1 ≤ n + 1 + 9; omega) (by show 8 + (3 + 11) + 60 * (1) ≤ 60 * (n + 1 + 9); omega)) rfl hl.1 (Nat.le_of_ble_eq_true rfl) ⟨Nat.zero_le _, Nat.zero_le _⟩ dX12_judge_512 (fun H locs hP hD hS => ?_)
    refine lv_iload_n hx hb dX12_judge_515 rfl (lv_at hl 3 rfl) ?_
    refine lv_bipush (v := 6) hx hb dX12_judge_516 (by decide) ?_
    refine lv_icmp_eq (tgt := 533) hx hb dX12_judge_518 (by decide) (fun c_35 => ?_) (fun c_35 => ?_)
    · skip
      replace h := (if_pos c_35).symm.trans h
      exact B_533 cs_34 u1 h _ _ _ hP hD hS (lv_sub hl [1, 2] rfl)
    · skip
      replace h := (if_neg c_35).symm.trans h
      refine lv_iload_n hx hb dX12_judge_521 rfl (lv_at hl 3 rfl) ?_
      refine lv_bipush (v := 7) hx hb dX12_judge_522 (by decide) ?_
      refine lv_icmp_eq (tgt := 533) hx hb dX12_judge_524 (by decide) (fun c_36 => ?_) (fun c_36 => ?_)
      · skip
        replace h := (if_pos c_36).symm.trans h
        exact B_533 cs_34 u1 h _ _ _ hP hD hS (lv_sub hl [1, 2] rfl)
      · skip
        replace h := (if_neg c_36).symm.trans h
        refine lv_iload_n hx hb dX12_judge_527 rfl (lv_at hl 3 rfl) ?_
        refine lv_bipush (v := 9) hx hb dX12_judge_528 (by decide) ?_
        refine lv_icmp_ne (tgt := 537) hx hb dX12_judge_530 (by decide) (fun c_37 => ?_) (fun c_37 => ?_)
        · skip
          replace h := (if_neg c_37).symm.trans h
          refine lv_iconst (v := 1) hx hb dX12_judge_537 (by decide) ?_
          exact B_538 cs_34 u1 1 h _ _ _ hP hD hS (lv_sub hl [1, 2] rfl)
        · skip
          replace h := (if_pos c_37).symm.trans h
          exact B_533 cs_34 u1 h _ _ _ hP hD hS (lv_sub hl [1, 2] rfl)
  have B_484 : ∀ (cs1 : RS) (u1 : Int32) (u2 : Int32), m_judge_b484 F T cs1 u1 u2 = some cs9 → ∀ (H : Heap) (locs : List Loc) (ls : Array Slot), va_P (dC, dI) vwCl (mW cB cI cJ cZ h0 a cs1) H → va_D A (mW cB cI cJ cZ h0 a cs1) → va_S A s.heap H locs → lv_has ls 6 [(0, .ref h0), (1, .int u1), (2, .int u2)] → W p l e (headSpec (wsOf yX12_judge cX12_judge 6 none) ({ frames := n + 1 + 9, cells := 0, slots := 0, locals := 60 * (n + 1 + 9) } : Room)).room s m ([.ref h0, .int x1] : List Value).toArray below meth c H locs 0 0 (MQ below (va_Qv (fun (_ : Unit) => True) (fun _ t_ => va_P (dC, dI) vwCl (mW cB cI cJ cZ h0 a cs9) t_.heap ∧ va_D A (mW cB cI cJ cZ h0 a cs9)) A) ([.ref h0, .int x1] : List Value).toArray s 0 0 A) (F0 m 484 ls []) := by
    intro cs1 u1 u2 h H locs ls hP hD hS hl
    unfold m_judge_b484 at h
    refine lv_iconst (v := 2) hx hb dX12_judge_484 (by decide) ?_
    refine lv_goto (tgt := 489) hx hb dX12_judge_485 (by decide) ?_
    exact B_489 cs1 u1 u2 2 h _ _ _ hP hD hS (lv_sub hl [0, 1, 2] rfl)
  have h := hf
  unfold b_judge at h
  refine lv_aload_n hx hb dX12_judge_0 rfl (lv_at hl 0 rfl) ?_
  refine fg_21 hx hb hts hown hK hP dX12_judge_1 ?_
  refine lv_if_ne (tgt := 8) hx hb dX12_judge_4 (by decide) (fun c_38 => ?_) (fun c_38 => ?_)
  · skip
    replace h := (if_neg c_38).symm.trans h
    refine lv_aload_n hx hb dX12_judge_8 rfl (lv_at hl 0 rfl) ?_
    refine fg_23 hx hb hts hown hK hP dX12_judge_9 ?_
    refine lv_iload_n hx hb dX12_judge_12 rfl (lv_at hl 1 rfl) ?_
    obtain ⟨v_39, hv_39, h⟩ := ob h
    refine ag_23 hx hb hK hP hv_39 dX12_judge_13 ?_
    refine lv_istore_n (lv' := [(2, .int v_39), (0, .ref h0), (1, .int x1)]) hx hb dX12_judge_14 rfl hl (by decide) rfl (fun ls hl => ?_)
    refine lv_iconst (v := 1) hx hb dX12_judge_15 (by decide) ?_
    refine lv_istore_n (lv' := [(3, .int 1), (2, .int v_39), (0, .ref h0), (1, .int x1)]) hx hb dX12_judge_16 rfl hl (by decide) rfl (fun ls hl => ?_)
    refine lv_iload_n hx hb dX12_judge_17 rfl (lv_at hl 1 rfl) ?_
    refine lv_iconst (v := 2) hx hb dX12_judge_18 (by decide) ?_
    refine lv_icmp_ne (tgt := 27) hx hb dX12_judge_19 (by decide) (fun c_40 => ?_) (fun c_40 => ?_)
    · skip
      replace h := (if_neg c_40).symm.trans h
      refine lv_iload_n hx hb dX12_judge_27 rfl (lv_at hl 1 rfl) ?_
      refine lv_iconst (v := 3) hx hb dX12_judge_28 (by decide) ?_
      refine lv_icmp_eq (tgt := 37) hx hb dX12_judge_29 (by decide) (fun c_41 => ?_) (fun c_41 => ?_)
      · skip
        replace h := (if_pos c_41).symm.trans h
        exact B_37 cs x1 h _ _ _ hP hD hS (lv_sub hl [2, 3] rfl)
      · skip
        replace h := (if_neg c_41).symm.trans h
        refine lv_iload_n hx hb dX12_judge_32 rfl (lv_at hl 1 rfl) ?_
        refine lv_iconst (v := 4) hx hb dX12_judge_33 (by decide) ?_
        refine lv_icmp_ne (tgt := 42) hx hb dX12_judge_34 (by decide) (fun c_42 => ?_) (fun c_42 => ?_)
        · skip
          replace h := (if_neg c_42).symm.trans h
          refine lv_iload_n hx hb dX12_judge_42 rfl (lv_at hl 1 rfl) ?_
          refine lv_iconst (v := 5) hx hb dX12_judge_43 (by decide) ?_
          refine lv_icmp_ne (tgt := 56) hx hb dX12_judge_44 (by decide) (fun c_43 => ?_) (fun c_43 => ?_)
          · skip
            replace h := (if_neg c_43).symm.trans h
            refine lv_iload_n hx hb dX12_judge_56 rfl (lv_at hl 1 rfl) ?_
            refine lv_bipush (v := 21) hx hb dX12_judge_57 (by decide) ?_
            refine lv_icmp_lt (tgt := 109) hx hb dX12_judge_59 (by decide) (fun c_44 => ?_) (fun c_44 => ?_)
            · skip
              replace h := (if_pos c_44).symm.trans h
              refine lv_iload_n hx hb dX12_judge_109 rfl (lv_at hl 1 rfl) ?_
              refine lv_bipush (v := 18) hx hb dX12_judge_110 (by decide) ?_
              refine lv_icmp_ne (tgt := 260) hx hb dX12_judge_112 (by decide) (fun c_45 => ?_) (fun c_45 => ?_)
              · skip
                replace h := (if_neg c_45).symm.trans h
                refine lv_iload_n hx hb dX12_judge_260 rfl (lv_at hl 1 rfl) ?_
                refine lv_bipush (v := 11) hx hb dX12_judge_261 (by decide) ?_
                refine lv_icmp_ne (tgt := 371) hx hb dX12_judge_263 (by decide) (fun c_46 => ?_) (fun c_46 => ?_)
                · skip
                  replace h := (if_neg c_46).symm.trans h
                  refine lv_iload_n hx hb dX12_judge_371 rfl (lv_at hl 1 rfl) ?_
                  refine lv_bipush (v := 8) hx hb dX12_judge_372 (by decide) ?_
                  refine lv_icmp_eq (tgt := 389) hx hb dX12_judge_374 (by decide) (fun c_47 => ?_) (fun c_47 => ?_)
                  · skip
                    replace h := (if_pos c_47).symm.trans h
                    exact B_389 cs x1 v_39 h _ _ _ hP hD hS (lv_sub hl [2, 3, 1] rfl)
                  · skip
                    replace h := (if_neg c_47).symm.trans h
                    refine lv_iload_n hx hb dX12_judge_377 rfl (lv_at hl 1 rfl) ?_
                    refine lv_bipush (v := 10) hx hb dX12_judge_378 (by decide) ?_
                    refine lv_icmp_eq (tgt := 389) hx hb dX12_judge_380 (by decide) (fun c_48 => ?_) (fun c_48 => ?_)
                    · skip
                      replace h := (if_pos c_48).symm.trans h
                      exact B_389 cs x1 v_39 h _ _ _ hP hD hS (lv_sub hl [2, 3, 1] rfl)
                    · skip
                      replace h := (if_neg c_48).symm.trans h
                      refine lv_iload_n hx hb dX12_judge_383 rfl (lv_at hl 1 rfl) ?_
                      refine lv_bipush (v := 17) hx hb dX12_judge_384 (by decide) ?_
                      refine lv_icmp_ne (tgt := 441) hx hb dX12_judge_386 (by decide) (fun c_49 => ?_) (fun c_49 => ?_)
                      · skip
                        replace h := (if_neg c_49).symm.trans h
                        refine lv_iload_n hx hb dX12_judge_441 rfl (lv_at hl 1 rfl) ?_
                        refine lv_iconst (v := 1) hx hb dX12_judge_442 (by decide) ?_
                        refine lv_icmp_eq (tgt := 539) hx hb dX12_judge_443 (by decide) (fun c_50 => ?_) (fun c_50 => ?_)
                        · skip
                          replace h := (if_pos c_50).symm.trans h
                          exact B_539 cs x1 1 h _ _ _ hP hD hS (lv_sub hl [2, 3, 0] rfl)
                        · skip
                          replace h := (if_neg c_50).symm.trans h
                          refine lv_iload_n hx hb dX12_judge_446 rfl (lv_at hl 1 rfl) ?_
                          refine lv_bipush (v := 20) hx hb dX12_judge_447 (by decide) ?_
                          refine lv_icmp_eq (tgt := 539) hx hb dX12_judge_449 (by decide) (fun c_51 => ?_) (fun c_51 => ?_)
                          · skip
                            replace h := (if_pos c_51).symm.trans h
                            exact B_539 cs x1 1 h _ _ _ hP hD hS (lv_sub hl [2, 3, 0] rfl)
                          · skip
                            replace h := (if_neg c_51).symm.trans h
                            refine lv_aload_n hx hb dX12_judge_452 rfl (lv_at hl 2 rfl) ?_
                            refine lv_aload_n hx hb dX12_judge_453 rfl (lv_at hl 2 rfl) ?_
                            refine fg_24 hx hb hts hown hK hP dX12_judge_454 ?_
                            refine lv_iload_n hx hb dX12_judge_457 rfl (lv_at hl 3 rfl) ?_
                            obtain ⟨v_52, hv_52, h⟩ := ob h
                            refine ag_24 hx hb hK hP hv_52 dX12_judge_458 ?_
                            obtain ⟨cs_53, hv_53, h⟩ := ob h
                            refine calV (As := [.int v_52]) hx hb hml hts hown hK hP hD hS hA hZ (hT_judge cs v_52 cs_53 hv_53) (cw_judge hts (fr := n + 9) (by show n + 9 + 1 ≤ n + 1 + 9; omega) (by show 8 + (6 + 11) + 60 * (n + 9) ≤ 60 * (n + 1 + 9); omega)) rfl hl.1 (Nat.le_of_ble_eq_true rfl) ⟨Nat.zero_le _, Nat.zero_le _⟩ dX12_judge_459 (fun H locs hP hD hS => ?_)
                            refine lv_aload_n hx hb dX12_judge_462 rfl (lv_at hl 2 rfl) ?_
                            refine lv_aload_n hx hb dX12_judge_463 rfl (lv_at hl 2 rfl) ?_
                            refine fg_25 hx hb hts hown hK hP dX12_judge_464 ?_
                            refine lv_iload_n hx hb dX12_judge_467 rfl (lv_at hl 3 rfl) ?_
                            obtain ⟨v_54, hv_54, h⟩ := ob h
                            refine ag_25 hx hb hK hP hv_54 dX12_judge_468 ?_
                            obtain ⟨cs_55, hv_55, h⟩ := ob h
                            refine calV (As := [.int v_54]) hx hb hml hts hown hK hP hD hS hA hZ (hT_judge cs_53 v_54 cs_55 hv_55) (cw_judge hts (fr := n + 9) (by show n + 9 + 1 ≤ n + 1 + 9; omega) (by show 8 + (6 + 11) + 60 * (n + 9) ≤ 60 * (n + 1 + 9); omega)) rfl hl.1 (Nat.le_of_ble_eq_true rfl) ⟨Nat.zero_le _, Nat.zero_le _⟩ dX12_judge_469 (fun H locs hP hD hS => ?_)
                            refine lv_iload_n hx hb dX12_judge_472 rfl (lv_at hl 1 rfl) ?_
                            refine lv_bipush (v := 6) hx hb dX12_judge_473 (by decide) ?_
                            refine lv_icmp_eq (tgt := 484) hx hb dX12_judge_475 (by decide) (fun c_56 => ?_) (fun c_56 => ?_)
                            · skip
                              replace h := (if_pos c_56).symm.trans h
                              exact B_484 cs_55 x1 v_39 h _ _ _ hP hD hS (lv_sub hl [2, 3, 1] rfl)
                            · skip
                              replace h := (if_neg c_56).symm.trans h
                              refine lv_iload_n hx hb dX12_judge_478 rfl (lv_at hl 1 rfl) ?_
                              refine lv_bipush (v := 7) hx hb dX12_judge_479 (by decide) ?_
                              refine lv_icmp_ne (tgt := 488) hx hb dX12_judge_481 (by decide) (fun c_57 => ?_) (fun c_57 => ?_)
                              · skip
                                replace h := (if_neg c_57).symm.trans h
                                refine lv_iconst (v := 1) hx hb dX12_judge_488 (by decide) ?_
                                exact B_489 cs_55 x1 v_39 1 h _ _ _ hP hD hS (lv_sub hl [2, 3, 1] rfl)
                              · skip
                                replace h := (if_pos c_57).symm.trans h
                                exact B_484 cs_55 x1 v_39 h _ _ _ hP hD hS (lv_sub hl [2, 3, 1] rfl)
                      · skip
                        replace h := (if_pos c_49).symm.trans h
                        exact B_389 cs x1 v_39 h _ _ _ hP hD hS (lv_sub hl [2, 3, 1] rfl)
                · skip
                  replace h := (if_pos c_46).symm.trans h
                  refine lv_aload_n hx hb dX12_judge_266 rfl (lv_at hl 2 rfl) ?_
                  refine lv_aload_n hx hb dX12_judge_267 rfl (lv_at hl 2 rfl) ?_
                  refine fg_24 hx hb hts hown hK hP dX12_judge_268 ?_
                  refine lv_iload_n hx hb dX12_judge_271 rfl (lv_at hl 3 rfl) ?_
                  obtain ⟨v_58, hv_58, h⟩ := ob h
                  refine ag_24 hx hb hK hP hv_58 dX12_judge_272 ?_
                  obtain ⟨cs_59, hv_59, h⟩ := ob h
                  refine calV (As := [.int v_58]) hx hb hml hts hown hK hP hD hS hA hZ (hT_judge cs v_58 cs_59 hv_59) (cw_judge hts (fr := n + 9) (by show n + 9 + 1 ≤ n + 1 + 9; omega) (by show 8 + (6 + 11) + 60 * (n + 9) ≤ 60 * (n + 1 + 9); omega)) rfl hl.1 (Nat.le_of_ble_eq_true rfl) ⟨Nat.zero_le _, Nat.zero_le _⟩ dX12_judge_273 (fun H locs hP hD hS => ?_)
                  refine lv_aload_n hx hb dX12_judge_276 rfl (lv_at hl 2 rfl) ?_
                  refine fg_25 hx hb hts hown hK hP dX12_judge_277 ?_
                  refine lv_iload_n hx hb dX12_judge_280 rfl (lv_at hl 3 rfl) ?_
                  obtain ⟨v_60, hv_60, h⟩ := ob h
                  refine ag_25 hx hb hK hP hv_60 dX12_judge_281 ?_
                  refine lv_istore (lv' := [(4, .int v_60), (3, .int 1), (2, .int v_39), (0, .ref h0), (1, .int x1)]) hx hb dX12_judge_282 hl (by decide) rfl (fun ls hl => ?_)
                  exact L_284 F cs_59 x1 v_60 h _ _ _ hP hD hS (lv_sub hl [3, 4, 0] rfl)
              · skip
                replace h := (if_pos c_45).symm.trans h
                refine lv_aload_n hx hb dX12_judge_115 rfl (lv_at hl 2 rfl) ?_
                refine lv_aload_n hx hb dX12_judge_116 rfl (lv_at hl 2 rfl) ?_
                refine fg_24 hx hb hts hown hK hP dX12_judge_117 ?_
                refine lv_iload_n hx hb dX12_judge_120 rfl (lv_at hl 3 rfl) ?_
                obtain ⟨v_61, hv_61, h⟩ := ob h
                refine ag_24 hx hb hK hP hv_61 dX12_judge_121 ?_
                obtain ⟨cs_62, hv_62, h⟩ := ob h
                refine calV (As := [.int v_61]) hx hb hml hts hown hK hP hD hS hA hZ (hT_judge cs v_61 cs_62 hv_62) (cw_judge hts (fr := n + 9) (by show n + 9 + 1 ≤ n + 1 + 9; omega) (by show 8 + (6 + 11) + 60 * (n + 9) ≤ 60 * (n + 1 + 9); omega)) rfl hl.1 (Nat.le_of_ble_eq_true rfl) ⟨Nat.zero_le _, Nat.zero_le _⟩ dX12_judge_122 (fun H locs hP hD hS => ?_)
                refine lv_aload_n hx hb dX12_judge_125 rfl (lv_at hl 2 rfl) ?_
                refine lv_aload_n hx hb dX12_judge_126 rfl (lv_at hl 2 rfl) ?_
                refine fg_25 hx hb hts hown hK hP dX12_judge_127 ?_
                refine lv_iload_n hx hb dX12_judge_130 rfl (lv_at hl 3 rfl) ?_
                obtain ⟨v_63, hv_63, h⟩ := ob h
                refine ag_25 hx hb hK hP hv_63 dX12_judge_131 ?_
                obtain ⟨cs_64, hv_64, h⟩ := ob h
                refine calV (As := [.int v_63]) hx hb hml hts hown hK hP hD hS hA hZ (hT_judge cs_62 v_63 cs_64 hv_64) (cw_judge hts (fr := n + 9) (by show n + 9 + 1 ≤ n + 1 + 9; omega) (by show 8 + (6 + 11) + 60 * (n + 9) ≤ 60 * (n + 1 + 9); omega)) rfl hl.1 (Nat.le_of_ble_eq_true rfl) ⟨Nat.zero_le _, Nat.zero_le _⟩ dX12_judge_132 (fun H locs hP hD hS => ?_)
                refine lv_aload_n hx hb dX12_judge_135 rfl (lv_at hl 2 rfl) ?_
                refine lv_aload_n hx hb dX12_judge_136 rfl (lv_at hl 2 rfl) ?_
                refine fg_26 hx hb hts hown hK hP dX12_judge_137 ?_
                refine lv_iload_n hx hb dX12_judge_140 rfl (lv_at hl 3 rfl) ?_
                obtain ⟨v_65, hv_65, h⟩ := ob h
                refine ag_26 hx hb hK hP hv_65 dX12_judge_141 ?_
                obtain ⟨cs_66, hv_66, h⟩ := ob h
                refine calV (As := [.int v_65]) hx hb hml hts hown hK hP hD hS hA hZ (hT_judge cs_64 v_65 cs_66 hv_66) (cw_judge hts (fr := n + 9) (by show n + 9 + 1 ≤ n + 1 + 9; omega) (by show 8 + (6 + 11) + 60 * (n + 9) ≤ 60 * (n + 1 + 9); omega)) rfl hl.1 (Nat.le_of_ble_eq_true rfl) ⟨Nat.zero_le _, Nat.zero_le _⟩ dX12_judge_142 (fun H locs hP hD hS => ?_)
                refine lv_aload_n hx hb dX12_judge_145 rfl (lv_at hl 2 rfl) ?_
                refine lv_aload_n hx hb dX12_judge_146 rfl (lv_at hl 2 rfl) ?_
                refine fg_24 hx hb hts hown hK hP dX12_judge_147 ?_
                refine lv_iload_n hx hb dX12_judge_150 rfl (lv_at hl 3 rfl) ?_
                obtain ⟨v_67, hv_67, h⟩ := ob h
                refine ag_24 hx hb hK hP hv_67 dX12_judge_151 ?_
                refine lv_iconst (v := 2) hx hb dX12_judge_152 (by decide) ?_
                obtain ⟨cs_68, hv_68, h⟩ := ob h
                refine calV (As := [.int v_67, .int 2]) hx hb hml hts hown hK hP hD hS hA hZ (s_want l dC dI cB cI cJ cZ h0 a K V fz F cs_66 v_67 2 cs_68 hv_68) (cw_want hts (fr := 1) (by show 1 + 1 ≤ n + 1 + 9; omega) (by show 8 + (3 + 11) + 60 * (1) ≤ 60 * (n + 1 + 9); omega)) rfl hl.1 (Nat.le_of_ble_eq_true rfl) ⟨Nat.zero_le _, Nat.zero_le _⟩ dX12_judge_153 (fun H locs hP hD hS => ?_)
                refine lv_aload_n hx hb dX12_judge_156 rfl (lv_at hl 2 rfl) ?_
                refine fg_21 hx hb hts hown hK hP dX12_judge_157 ?_
                refine lv_if_eq (tgt := 177) hx hb dX12_judge_160 (by decide) (fun c_69 => ?_) (fun c_69 => ?_)
                · skip
                  replace h := (if_pos c_69).symm.trans h
                  refine lv_iconst (v := 0) hx hb dX12_judge_177 (by decide) ?_
                  exact B_178 cs_68 x1 0 h _ _ _ hP hD hS (lv_sub hl [2, 3] rfl)
                · skip
                  replace h := (if_neg c_69).symm.trans h
                  refine lv_aload_n hx hb dX12_judge_163 rfl (lv_at hl 2 rfl) ?_
                  refine fg_31 hx hb hts hown hK hP dX12_judge_164 ?_
                  refine lv_aload_n hx hb dX12_judge_167 rfl (lv_at hl 2 rfl) ?_
                  refine fg_25 hx hb hts hown hK hP dX12_judge_168 ?_
                  refine lv_iload_n hx hb dX12_judge_171 rfl (lv_at hl 3 rfl) ?_
                  obtain ⟨v_70, hv_70, h⟩ := ob h
                  refine ag_25 hx hb hK hP hv_70 dX12_judge_172 ?_
                  obtain ⟨v_71, hv_71, h⟩ := ob h
                  refine ag_31 hx hb hK hP hv_71 dX12_judge_173 ?_
                  refine lv_goto (tgt := 178) hx hb dX12_judge_174 (by decide) ?_
                  exact B_178 cs_68 x1 v_71 h _ _ _ hP hD hS (lv_sub hl [2, 3] rfl)
            · skip
              replace h := (if_neg c_44).symm.trans h
              refine lv_aload_n hx hb dX12_judge_62 rfl (lv_at hl 2 rfl) ?_
              refine fg_76 hx hb hts hown hK hP dX12_judge_63 ?_
              refine lv_istore (lv' := [(4, .int (cs.1 76)), (3, .int 1), (2, .int v_39), (0, .ref h0), (1, .int x1)]) hx hb dX12_judge_66 hl (by decide) rfl (fun ls hl => ?_)
              refine lv_aload_n hx hb dX12_judge_68 rfl (lv_at hl 3 rfl) ?_
              refine lv_iconst (v := 0) hx hb dX12_judge_69 (by decide) ?_
              refine fp_76 hx hb hts hown hK hP hD hS dX12_judge_70 (fun H locs hP hD hS => ?_)
              refine lv_aload_n hx hb dX12_judge_73 rfl (lv_at hl 3 rfl) ?_
              refine lv_aload_n hx hb dX12_judge_74 rfl (lv_at hl 3 rfl) ?_
              refine fg_24 hx hb hts hown hK hP dX12_judge_75 ?_
              refine lv_iload_n hx hb dX12_judge_78 rfl (lv_at hl 4 rfl) ?_
              obtain ⟨v_72, hv_72, h⟩ := ob h
              refine ag_24 hx hb hK hP hv_72 dX12_judge_79 ?_
              obtain ⟨cs_73, hv_73, h⟩ := ob h
              refine calV (As := [.int v_72]) hx hb hml hts hown hK hP hD hS hA hZ (hT_judge (setF cs 76 0) v_72 cs_73 hv_73) (cw_judge hts (fr := n + 9) (by show n + 9 + 1 ≤ n + 1 + 9; omega) (by show 8 + (6 + 11) + 60 * (n + 9) ≤ 60 * (n + 1 + 9); omega)) rfl hl.1 (Nat.le_of_ble_eq_true rfl) ⟨Nat.zero_le _, Nat.zero_le _⟩ dX12_judge_80 (fun H locs hP hD hS => ?_)
              refine lv_aload_n hx hb dX12_judge_83 rfl (lv_at hl 3 rfl) ?_
              refine lv_iload hx hb dX12_judge_84 (lv_at hl 0 rfl) ?_
              refine fp_76 hx hb hts hown hK hP hD hS dX12_judge_86 (fun H locs hP hD hS => ?_)
              refine lv_iload_n hx hb dX12_judge_89 rfl (lv_at hl 2 rfl) ?_
              refine lv_bipush (v := 21) hx hb dX12_judge_90 (by decide) ?_
              refine lv_icmp_eq (tgt := 106) hx hb dX12_judge_92 (by decide) (fun c_74 => ?_) (fun c_74 => ?_)
              · skip
                replace h := (if_pos c_74).symm.trans h
                exact B_106 (setF cs_73 76 (cs.1 76)) x1 1 h _ _ _ hP hD hS (lv_sub hl [3, 4, 1] rfl)
              · skip
                replace h := (if_neg c_74).symm.trans h
                refine lv_aload_n hx hb dX12_judge_95 rfl (lv_at hl 3 rfl) ?_
                refine lv_aload_n hx hb dX12_judge_96 rfl (lv_at hl 3 rfl) ?_
                refine fg_24 hx hb hts hown hK hP dX12_judge_97 ?_
                refine lv_iload_n hx hb dX12_judge_100 rfl (lv_at hl 4 rfl) ?_
                obtain ⟨v_75, hv_75, h⟩ := ob h
                refine ag_24 hx hb hK hP hv_75 dX12_judge_101 ?_
                refine lv_iconst (v := 1) hx hb dX12_judge_102 (by decide) ?_
                obtain ⟨cs_76, hv_76, h⟩ := ob h
                refine calV (As := [.int v_75, .int 1]) hx hb hml hts hown hK hP hD hS hA hZ (s_want l dC dI cB cI cJ cZ h0 a K V fz F (setF cs_73 76 (cs.1 76)) v_75 1 cs_76 hv_76) (cw_want hts (fr := 1) (by show 1 + 1 ≤ n + 1 + 9; omega) (by show 8 + (3 + 11) + 60 * (1) ≤ 60 * (n + 1 + 9); omega)) rfl hl.1 (Nat.le_of_ble_eq_true rfl) ⟨Nat.zero_le _, Nat.zero_le _⟩ dX12_judge_103 (fun H locs hP hD hS => ?_)
                exact B_106 cs_76 x1 1 h _ _ _ hP hD hS (lv_sub hl [3, 4, 1] rfl)
          · skip
            replace h := (if_pos c_43).symm.trans h
            refine lv_aload_n hx hb dX12_judge_47 rfl (lv_at hl 2 rfl) ?_
            refine lv_iload_n hx hb dX12_judge_48 rfl (lv_at hl 3 rfl) ?_
            obtain ⟨z_77, hv_77, h⟩ := ob h
            refine calI (As := [.int x1]) hx hb hml hts hown hK hP hD hS hA hZ (s_find l dC dI cB cI cJ cZ h0 a K V fz F cs x1 z_77.1 z_77.2 hv_77) (cw_find hts (fr := 8) (by show 8 + 1 ≤ n + 1 + 9; omega) (by show 8 + (10 + 11) + 60 * (8) ≤ 60 * (n + 1 + 9); omega)) rfl hl.1 (Nat.le_of_ble_eq_true rfl) ⟨Nat.zero_le _, Nat.zero_le _⟩ dX12_judge_49 (fun H locs hP hD hS => ?_)
            refine lv_istore_n (lv' := [(3, .int z_77.2), (2, .int v_39), (0, .ref h0), (1, .int x1)]) hx hb dX12_judge_52 rfl hl (by decide) rfl (fun ls hl => ?_)
            refine lv_goto (tgt := 539) hx hb dX12_judge_53 (by decide) ?_
            exact B_539 z_77.1 x1 z_77.2 h _ _ _ hP hD hS (lv_sub hl [2, 3, 0] rfl)
        · skip
          replace h := (if_pos c_42).symm.trans h
          exact B_37 cs x1 h _ _ _ hP hD hS (lv_sub hl [2, 3] rfl)
    · skip
      replace h := (if_pos c_40).symm.trans h
      refine lv_iconst (v := 0) hx hb dX12_judge_22 (by decide) ?_
      refine lv_istore_n (lv' := [(3, .int 0), (2, .int v_39), (0, .ref h0), (1, .int x1)]) hx hb dX12_judge_23 rfl hl (by decide) rfl (fun ls hl => ?_)
      refine lv_goto (tgt := 539) hx hb dX12_judge_24 (by decide) ?_
      exact B_539 cs x1 0 h _ _ _ hP hD hS (lv_sub hl [2, 3, 0] rfl)
  · skip
    replace h := (if_pos c_38).symm.trans h
    have e1 := Option.some.inj h
    rw [e1] at hP hD
    exact W.vret hx hb hr (fun t_ ht hW => ⟨⟨(), rfl, trivial, by rw [ht]; exact hP, hD⟩, hS.F ht⟩) hS.2.2 dX12_judge_7
theorem sg_judge (l : Launch) (dC : Nat → ClassId) (dI : Nat → Nat → Nat) (cB cI cJ cZ : ClassId) (h0 : Nat) (a : Nat → Nat) (K V : Nat → Nat) (fz : Value) (F : Nat) : ∀ n : Nat, (∀ (cs : RS) (x1 : Int32) (cs9 : RS), (tab_judge F n) cs x1 = some cs9 → okV l dC dI cB cI cJ cZ h0 a K V fz yX12_judge (wsOf yX12_judge cX12_judge 6 none) (n + 9) [.ref h0, .int x1] cs cs9) := by
  intro n
  induction n with
  | zero => exact fun _ _ _ h => (by cases (show (none : Option RS) = _ from h))
  | succ n ih =>
    have h0_ := ih
    exact fun cs w0 w1 hf => sb_judge l dC dI cB cI cJ cZ h0 a K V fz F n (tab_judge F n) h0_ cs w0 w1 hf
def m_judge (F n : Nat) (cs : RS) (x1 : Int32) : Option RS := (tab_judge F n) cs x1
theorem s_judge (l : Launch) (dC : Nat → ClassId) (dI : Nat → Nat → Nat) (cB cI cJ cZ : ClassId) (h0 : Nat) (a : Nat → Nat) (K V : Nat → Nat) (fz : Value) (F n : Nat) (cs : RS) (x1 : Int32) (cs9 : RS) (hf : m_judge F n cs x1 = some cs9) : okV l dC dI cB cI cJ cZ h0 a K V fz yX12_judge (wsOf yX12_judge cX12_judge 6 none) (n + 9) [.ref h0, .int x1] cs cs9 := (sg_judge l dC dI cB cI cJ cZ h0 a K V fz F n) cs x1 cs9 hf
abbrev TG_isKept : Type := (RS → Int32 → Option Int32) × (RS → Int32 → Option Int32) × (RS → Int32 → Int32 → Option Int32)
theorem dX12_isKept_0 : decode cX12_isKept 0 = .ok (.aload_n 0, 1) := by decide +kernel
theorem dX12_isKept_1 : decode cX12_isKept 1 = .ok (.getfield 127, 3) := by decide +kernel
theorem dX12_isKept_4 : decode cX12_isKept 4 = .ok (.iload_n 1, 1) := by decide +kernel
theorem dX12_isKept_5 : decode cX12_isKept 5 = .ok (.iaload, 1) := by decide +kernel
theorem dX12_isKept_6 : decode cX12_isKept 6 = .ok (.iconst (-1), 1) := by decide +kernel
theorem dX12_isKept_7 : decode cX12_isKept 7 = .ok (.if_icmp .eq 12, 3) := by decide +kernel
theorem dX12_isKept_10 : decode cX12_isKept 10 = .ok (.aload_n 0, 1) := by decide +kernel
theorem dX12_isKept_11 : decode cX12_isKept 11 = .ok (.getfield 133, 3) := by decide +kernel
theorem dX12_isKept_14 : decode cX12_isKept 14 = .ok (.iload_n 1, 1) := by decide +kernel
theorem dX12_isKept_15 : decode cX12_isKept 15 = .ok (.baload, 1) := by decide +kernel
theorem dX12_isKept_16 : decode cX12_isKept 16 = .ok (.goto 13, 3) := by decide +kernel
theorem dX12_isKept_19 : decode cX12_isKept 19 = .ok (.aload_n 0, 1) := by decide +kernel
theorem dX12_isKept_20 : decode cX12_isKept 20 = .ok (.aload_n 0, 1) := by decide +kernel
theorem dX12_isKept_21 : decode cX12_isKept 21 = .ok (.getfield 139, 3) := by decide +kernel
theorem dX12_isKept_24 : decode cX12_isKept 24 = .ok (.iload_n 1, 1) := by decide +kernel
theorem dX12_isKept_25 : decode cX12_isKept 25 = .ok (.iaload, 1) := by decide +kernel
theorem dX12_isKept_26 : decode cX12_isKept 26 = .ok (.invokevirtual 543, 3) := by decide +kernel
theorem dX12_isKept_29 : decode cX12_isKept 29 = .ok (.ireturn, 1) := by decide +kernel
def m_isKept_b29 (F : Nat) (T : TG_isKept) (cs : RS) (y0 : Int32) : Option Int32 := Option.bind (ckZ y0) fun _ => some y0
def b_isKept (F : Nat) (T : TG_isKept) (cs : RS) (x1 : Int32) : Option Int32 := Option.bind (rdI (cs.2.2.1 49) 180 x1) fun v_2 => if v_2 = (-1) then (Option.bind (rdI (cs.2.2.1 53) 180 x1) fun v_4 => Option.bind (T.2.1 cs v_4) fun v_5 => m_isKept_b29 F T cs v_5) else (Option.bind (rdI (cs.2.2.1 51) 180 x1) fun v_6 => m_isKept_b29 F T cs v_6)
theorem dX12_isKeptQuery_0 : decode cX12_isKeptQuery 0 = .ok (.iconst 0, 1) := by decide +kernel
theorem dX12_isKeptQuery_1 : decode cX12_isKeptQuery 1 = .ok (.istore_n 2, 1) := by decide +kernel
theorem dX12_isKeptQuery_2 : decode cX12_isKeptQuery 2 = .ok (.iload_n 2, 1) := by decide +kernel
theorem dX12_isKeptQuery_3 : decode cX12_isKeptQuery 3 = .ok (.aload_n 0, 1) := by decide +kernel
theorem dX12_isKeptQuery_4 : decode cX12_isKeptQuery 4 = .ok (.getfield 157, 3) := by decide +kernel
theorem dX12_isKeptQuery_7 : decode cX12_isKeptQuery 7 = .ok (.iload_n 1, 1) := by decide +kernel
theorem dX12_isKeptQuery_8 : decode cX12_isKeptQuery 8 = .ok (.iaload, 1) := by decide +kernel
theorem dX12_isKeptQuery_9 : decode cX12_isKeptQuery 9 = .ok (.if_icmp .ge 36, 3) := by decide +kernel
theorem dX12_isKeptQuery_12 : decode cX12_isKeptQuery 12 = .ok (.aload_n 0, 1) := by decide +kernel
theorem dX12_isKeptQuery_13 : decode cX12_isKeptQuery 13 = .ok (.getfield 160, 3) := by decide +kernel
theorem dX12_isKeptQuery_16 : decode cX12_isKeptQuery 16 = .ok (.iconst 5, 1) := by decide +kernel
theorem dX12_isKeptQuery_17 : decode cX12_isKeptQuery 17 = .ok (.iload_n 1, 1) := by decide +kernel
theorem dX12_isKeptQuery_18 : decode cX12_isKeptQuery 18 = .ok (.imul, 1) := by decide +kernel
theorem dX12_isKeptQuery_19 : decode cX12_isKeptQuery 19 = .ok (.iload_n 2, 1) := by decide +kernel
theorem dX12_isKeptQuery_20 : decode cX12_isKeptQuery 20 = .ok (.iadd, 1) := by decide +kernel
theorem dX12_isKeptQuery_21 : decode cX12_isKeptQuery 21 = .ok (.iaload, 1) := by decide +kernel
theorem dX12_isKeptQuery_22 : decode cX12_isKeptQuery 22 = .ok (.istore_n 3, 1) := by decide +kernel
theorem dX12_isKeptQuery_23 : decode cX12_isKeptQuery 23 = .ok (.aload_n 0, 1) := by decide +kernel
theorem dX12_isKeptQuery_24 : decode cX12_isKeptQuery 24 = .ok (.iload_n 3, 1) := by decide +kernel
theorem dX12_isKeptQuery_25 : decode cX12_isKeptQuery 25 = .ok (.aload_n 0, 1) := by decide +kernel
theorem dX12_isKeptQuery_26 : decode cX12_isKeptQuery 26 = .ok (.getfield 91, 3) := by decide +kernel
theorem dX12_isKeptQuery_29 : decode cX12_isKeptQuery 29 = .ok (.iload_n 3, 1) := by decide +kernel
theorem dX12_isKeptQuery_30 : decode cX12_isKeptQuery 30 = .ok (.iaload, 1) := by decide +kernel
theorem dX12_isKeptQuery_31 : decode cX12_isKeptQuery 31 = .ok (.invokevirtual 549, 3) := by decide +kernel
theorem dX12_isKeptQuery_34 : decode cX12_isKeptQuery 34 = .ok (.ifCond .ne 5, 3) := by decide +kernel
theorem dX12_isKeptQuery_37 : decode cX12_isKeptQuery 37 = .ok (.iconst 0, 1) := by decide +kernel
theorem dX12_isKeptQuery_38 : decode cX12_isKeptQuery 38 = .ok (.ireturn, 1) := by decide +kernel
theorem dX12_isKeptQuery_39 : decode cX12_isKeptQuery 39 = .ok (.iinc 2 1, 3) := by decide +kernel
theorem dX12_isKeptQuery_42 : decode cX12_isKeptQuery 42 = .ok (.goto (-40), 3) := by decide +kernel
theorem dX12_isKeptQuery_45 : decode cX12_isKeptQuery 45 = .ok (.iconst 1, 1) := by decide +kernel
theorem dX12_isKeptQuery_46 : decode cX12_isKeptQuery 46 = .ok (.ireturn, 1) := by decide +kernel
def m_isKeptQuery_L2 (F : Nat) (T : TG_isKept) (cs : RS) : Nat → Int32 → Int32 → Option Int32
  | 0, _, _ => none
  | lf_2 + 1, u1, u2 => Option.bind (rdI (cs.2.2.1 60) 60 u1) fun v_1 => if v_1 ≤ u2 then (some 1) else (Option.bind (rdI (cs.2.2.1 61) 300 ((5 * u1) + u2)) fun v_3 => Option.bind (rdI (cs.2.2.1 37) 60 v_3) fun v_4 => Option.bind (T.2.2 cs v_3 v_4) fun v_5 => if v_5 = 0 then (some 0) else ((m_isKeptQuery_L2 F T cs lf_2) u1 (u2 + 1)))
def b_isKeptQuery (F : Nat) (T : TG_isKept) (cs : RS) (x1 : Int32) : Option Int32 := m_isKeptQuery_L2 F T cs F x1 0
theorem dX12_isKeptSelect_0 : decode cX12_isKeptSelect 0 = .ok (.iconst 0, 1) := by decide +kernel
theorem dX12_isKeptSelect_1 : decode cX12_isKeptSelect 1 = .ok (.istore_n 3, 1) := by decide +kernel
theorem dX12_isKeptSelect_2 : decode cX12_isKeptSelect 2 = .ok (.iload_n 3, 1) := by decide +kernel
theorem dX12_isKeptSelect_3 : decode cX12_isKeptSelect 3 = .ok (.iload_n 2, 1) := by decide +kernel
theorem dX12_isKeptSelect_4 : decode cX12_isKeptSelect 4 = .ok (.if_icmp .ge 23, 3) := by decide +kernel
theorem dX12_isKeptSelect_7 : decode cX12_isKeptSelect 7 = .ok (.aload_n 0, 1) := by decide +kernel
theorem dX12_isKeptSelect_8 : decode cX12_isKeptSelect 8 = .ok (.iconst 3, 1) := by decide +kernel
theorem dX12_isKeptSelect_9 : decode cX12_isKeptSelect 9 = .ok (.iload_n 1, 1) := by decide +kernel
theorem dX12_isKeptSelect_10 : decode cX12_isKeptSelect 10 = .ok (.imul, 1) := by decide +kernel
theorem dX12_isKeptSelect_11 : decode cX12_isKeptSelect 11 = .ok (.iload_n 3, 1) := by decide +kernel
theorem dX12_isKeptSelect_12 : decode cX12_isKeptSelect 12 = .ok (.iadd, 1) := by decide +kernel
theorem dX12_isKeptSelect_13 : decode cX12_isKeptSelect 13 = .ok (.invokevirtual 546, 3) := by decide +kernel
theorem dX12_isKeptSelect_16 : decode cX12_isKeptSelect 16 = .ok (.ifCond .ne 5, 3) := by decide +kernel
theorem dX12_isKeptSelect_19 : decode cX12_isKeptSelect 19 = .ok (.iconst 0, 1) := by decide +kernel
theorem dX12_isKeptSelect_20 : decode cX12_isKeptSelect 20 = .ok (.ireturn, 1) := by decide +kernel
theorem dX12_isKeptSelect_21 : decode cX12_isKeptSelect 21 = .ok (.iinc 3 1, 3) := by decide +kernel
theorem dX12_isKeptSelect_24 : decode cX12_isKeptSelect 24 = .ok (.goto (-22), 3) := by decide +kernel
theorem dX12_isKeptSelect_27 : decode cX12_isKeptSelect 27 = .ok (.iconst 1, 1) := by decide +kernel
theorem dX12_isKeptSelect_28 : decode cX12_isKeptSelect 28 = .ok (.ireturn, 1) := by decide +kernel
def m_isKeptSelect_L2 (F : Nat) (T : TG_isKept) (cs : RS) : Nat → Int32 → Int32 → Int32 → Option Int32
  | 0, _, _, _ => none
  | lf_2 + 1, u1, u2, u3 => if u2 ≤ u3 then (some 1) else (Option.bind (T.1 cs ((3 * u1) + u3)) fun v_2 => if v_2 = 0 then (some 0) else ((m_isKeptSelect_L2 F T cs lf_2) u1 u2 (u3 + 1)))
def b_isKeptSelect (F : Nat) (T : TG_isKept) (cs : RS) (x1 : Int32) (x2 : Int32) : Option Int32 := m_isKeptSelect_L2 F T cs F x1 x2 0
def tab_isKept (F : Nat) : Nat → TG_isKept
  | 0 => (fun _ _ => none, fun _ _ => none, fun _ _ _ => none)
  | n + 1 => (b_isKept F (tab_isKept F n), b_isKeptQuery F (tab_isKept F n), b_isKeptSelect F (tab_isKept F n))
theorem cw_isKept {R : Room} {s : State} {args : Array Value} {y0 : MethodName} {c0 : ByteArray} {n0 : Nat} {r0 : Option FieldType} (hts : ∀ w ∈ wsOf y0 c0 n0 r0, w.before args s = true) {fr : Nat} (h1 : fr + 1 ≤ R.frames) (h2 : 8 + (2 + 11) + 60 * fr ≤ R.locals) : CallW R s args RX12 RX12 546 yX12_isKept cX12_isKept 2 (some .boolean) (wsOf yX12_isKept cX12_isKept 2 (some .boolean)) ({ frames := fr, cells := 0, slots := 0, locals := 60 * fr } : Room) 0 0 1 := cwV 1 hts (gd_all (in_V kw_2419 kw_2421 kw_168 kw_191 kc_X12_isKept)) rfl rfl rfl (by decide +kernel) ⟨h1, h2⟩
theorem cw_isKeptQuery {R : Room} {s : State} {args : Array Value} {y0 : MethodName} {c0 : ByteArray} {n0 : Nat} {r0 : Option FieldType} (hts : ∀ w ∈ wsOf y0 c0 n0 r0, w.before args s = true) {fr : Nat} (h1 : fr + 1 ≤ R.frames) (h2 : 8 + (4 + 11) + 60 * fr ≤ R.locals) : CallW R s args RX12 RX12 543 yX12_isKeptQuery cX12_isKeptQuery 4 (some .boolean) (wsOf yX12_isKeptQuery cX12_isKeptQuery 4 (some .boolean)) ({ frames := fr, cells := 0, slots := 0, locals := 60 * fr } : Room) 0 0 1 := cwV 1 hts (gd_all (in_V kw_2423 kw_2425 kw_169 kw_191 kc_X12_isKeptQuery)) rfl rfl rfl (by decide +kernel) ⟨h1, h2⟩
theorem cw_isKeptSelect {R : Room} {s : State} {args : Array Value} {y0 : MethodName} {c0 : ByteArray} {n0 : Nat} {r0 : Option FieldType} (hts : ∀ w ∈ wsOf y0 c0 n0 r0, w.before args s = true) {fr : Nat} (h1 : fr + 1 ≤ R.frames) (h2 : 8 + (4 + 11) + 60 * fr ≤ R.locals) : CallW R s args RX12 RX12 549 yX12_isKeptSelect cX12_isKeptSelect 4 (some .boolean) (wsOf yX12_isKeptSelect cX12_isKeptSelect 4 (some .boolean)) ({ frames := fr, cells := 0, slots := 0, locals := 60 * fr } : Room) 0 0 2 := cwV 2 hts (gd_all (in_V kw_2415 kw_2417 kw_167 kw_191 kc_X12_isKeptSelect)) rfl rfl rfl (by decide +kernel) ⟨h1, h2⟩
set_option maxHeartbeats 4000000 in
set_option maxRecDepth 100000 in
theorem sb_isKept (l : Launch) (dC : Nat → ClassId) (dI : Nat → Nat → Nat) (cB cI cJ cZ : ClassId) (h0 : Nat) (a : Nat → Nat) (K V : Nat → Nat) (fz : Value) (F : Nat) (n : Nat) (T : TG_isKept) (hT_isKept : ∀ (cs : RS) (x1 : Int32) (r9 : Int32), T.1 cs x1 = some r9 → okI l dC dI cB cI cJ cZ h0 a K V fz yX12_isKept (wsOf yX12_isKept cX12_isKept 2 (some .boolean)) (n + 0) [.ref h0, .int x1] cs cs r9) (hT_isKeptQuery : ∀ (cs : RS) (x1 : Int32) (r9 : Int32), T.2.1 cs x1 = some r9 → okI l dC dI cB cI cJ cZ h0 a K V fz yX12_isKeptQuery (wsOf yX12_isKeptQuery cX12_isKeptQuery 4 (some .boolean)) (n + 0) [.ref h0, .int x1] cs cs r9) (hT_isKeptSelect : ∀ (cs : RS) (x1 : Int32) (x2 : Int32) (r9 : Int32), T.2.2 cs x1 x2 = some r9 → okI l dC dI cB cI cJ cZ h0 a K V fz yX12_isKeptSelect (wsOf yX12_isKeptSelect cX12_isKeptSelect 4 (some .boolean)) (n + 0) [.ref h0, .int x1, .int x2] cs cs r9) (cs : RS) (x1 : Int32) (r9 : Int32) (hf : b_isKept F T cs x1 = some r9) : okI l dC dI cB cI cJ cZ h0 a K V fz yX12_isKept (wsOf yX12_isKept cX12_isKept 2 (some .boolean)) (n + 1 + 0) [.ref h0, .int x1] cs cs r9 := by
  intro sz
  refine Met.ofW (cc := cX12_isKept) (maxL := 2) (ret := (some .boolean)) (by decide) rfl ?_
  intro p e s m args below meth c s₁ B hml hv
  obtain ⟨rfl, hsz, hP, hK, hD0, hZ⟩ := hv
  have hx := B.exec
  have hb := B.bytes
  have hr := B.returns
  have hts := atoms_spec (ws := (wsOf yX12_isKept cX12_isKept 2 (some .boolean))) B.pre
  have hown : s.vm.findClass RX12 = some m.cls := findClass_of_methodNamed B.named
  have hlocks := B.notSynchronized
  subst hsz
  have hD := hD0.self (sz := s.heap.size)
  generalize hAe : va_A (mW cB cI cJ cZ h0 a cs) s.heap.size = A at hD hZ ⊢
  have hA : ∀ q : Nat, s.heap.size ≤ q → A q := fun q h => by rw [← hAe]; exact Or.inr h
  have hS : va_S A s.heap s.heap [] := va_S.rf
  have hl := lv_entry ([.ref h0, .int x1]) (n := 2) (Nat.le_of_ble_eq_true rfl)
  rw [lg_entry_eq]
  generalize (lg_sl ([.ref h0, .int x1]) ++ List.replicate (2 - (lg_sl ([.ref h0, .int x1])).length) Slot.unset).toArray = ls at hl ⊢
  have hl : lv_has ls 2 [(0, .ref h0), (1, .int x1)] := hl
  have B_29 : ∀ (y0 : Int32), m_isKept_b29 F T cs y0 = some r9 → ∀ (H : Heap) (locs : List Loc) (ls : Array Slot), va_P (dC, dI) vwCl (mW cB cI cJ cZ h0 a cs) H → va_D A (mW cB cI cJ cZ h0 a cs) → va_S A s.heap H locs → lv_has ls 2 [] → W p l e (headSpec (wsOf yX12_isKept cX12_isKept 2 (some .boolean)) ({ frames := n + 1 + 0, cells := 0, slots := 0, locals := 60 * (n + 1 + 0) } : Room)).room s m ([.ref h0, .int x1] : List Value).toArray below meth c H locs 0 0 (MQ below (va_Qi (fun (x : Int32) (_ : Unit) => x = r9) (fun _ t_ => va_P (dC, dI) vwCl (mW cB cI cJ cZ h0 a cs) t_.heap ∧ va_D A (mW cB cI cJ cZ h0 a cs)) A) ([.ref h0, .int x1] : List Value).toArray s 0 0 A) (F0 m 29 ls [.int y0]) := by
    intro y0 h H locs ls hP hD hS hl
    unfold m_isKept_b29 at h
    obtain ⟨w_1, hw_1, h⟩ := ob h
    have e2 := Option.some.inj h
    exact W.zret (v := y0) hx hb hr (nzN (ckZ_some hw_1)) (fun t_ ht hW => ⟨⟨y0, (), rfl, e2, by rw [ht]; exact hP, hD⟩, hS.F ht⟩) hS.2.2 dX12_isKept_29
  have h := hf
  unfold b_isKept at h
  refine lv_aload_n hx hb dX12_isKept_0 rfl (lv_at hl 0 rfl) ?_
  refine fg_49 hx hb hts hown hK hP dX12_isKept_1 ?_
  refine lv_iload_n hx hb dX12_isKept_4 rfl (lv_at hl 1 rfl) ?_
  obtain ⟨v_2, hv_2, h⟩ := ob h
  refine ag_49 hx hb hK hP hv_2 dX12_isKept_5 ?_
  refine lv_iconst (v := (-1)) hx hb dX12_isKept_6 (by decide) ?_
  refine lv_icmp_eq (tgt := 19) hx hb dX12_isKept_7 (by decide) (fun c_3 => ?_) (fun c_3 => ?_)
  · skip
    replace h := (if_pos c_3).symm.trans h
    refine lv_aload_n hx hb dX12_isKept_19 rfl (lv_at hl 0 rfl) ?_
    refine lv_aload_n hx hb dX12_isKept_20 rfl (lv_at hl 0 rfl) ?_
    refine fg_53 hx hb hts hown hK hP dX12_isKept_21 ?_
    refine lv_iload_n hx hb dX12_isKept_24 rfl (lv_at hl 1 rfl) ?_
    obtain ⟨v_4, hv_4, h⟩ := ob h
    refine ag_53 hx hb hK hP hv_4 dX12_isKept_25 ?_
    obtain ⟨v_5, hv_5, h⟩ := ob h
    refine calI (As := [.int v_4]) hx hb hml hts hown hK hP hD hS hA hZ (hT_isKeptQuery cs v_4 v_5 hv_5) (cw_isKeptQuery hts (fr := n + 0) (by show n + 0 + 1 ≤ n + 1 + 0; omega) (by show 8 + (4 + 11) + 60 * (n + 0) ≤ 60 * (n + 1 + 0); omega)) rfl hl.1 (Nat.le_of_ble_eq_true rfl) ⟨Nat.zero_le _, Nat.zero_le _⟩ dX12_isKept_26 (fun H locs hP hD hS => ?_)
    exact B_29 v_5 h _ _ _ hP hD hS (lv_sub hl [] rfl)
  · skip
    replace h := (if_neg c_3).symm.trans h
    refine lv_aload_n hx hb dX12_isKept_10 rfl (lv_at hl 0 rfl) ?_
    refine fg_51 hx hb hts hown hK hP dX12_isKept_11 ?_
    refine lv_iload_n hx hb dX12_isKept_14 rfl (lv_at hl 1 rfl) ?_
    obtain ⟨v_6, hv_6, h⟩ := ob h
    refine ag_51 hx hb hK hP hv_6 dX12_isKept_15 ?_
    refine lv_goto (tgt := 29) hx hb dX12_isKept_16 (by decide) ?_
    exact B_29 v_6 h _ _ _ hP hD hS (lv_sub hl [] rfl)
set_option maxHeartbeats 4000000 in
set_option maxRecDepth 100000 in
theorem sb_isKeptQuery (l : Launch) (dC : Nat → ClassId) (dI : Nat → Nat → Nat) (cB cI cJ cZ : ClassId) (h0 : Nat) (a : Nat → Nat) (K V : Nat → Nat) (fz : Value) (F : Nat) (n : Nat) (T : TG_isKept) (hT_isKept : ∀ (cs : RS) (x1 : Int32) (r9 : Int32), T.1 cs x1 = some r9 → okI l dC dI cB cI cJ cZ h0 a K V fz yX12_isKept (wsOf yX12_isKept cX12_isKept 2 (some .boolean)) (n + 0) [.ref h0, .int x1] cs cs r9) (hT_isKeptQuery : ∀ (cs : RS) (x1 : Int32) (r9 : Int32), T.2.1 cs x1 = some r9 → okI l dC dI cB cI cJ cZ h0 a K V fz yX12_isKeptQuery (wsOf yX12_isKeptQuery cX12_isKeptQuery 4 (some .boolean)) (n + 0) [.ref h0, .int x1] cs cs r9) (hT_isKeptSelect : ∀ (cs : RS) (x1 : Int32) (x2 : Int32) (r9 : Int32), T.2.2 cs x1 x2 = some r9 → okI l dC dI cB cI cJ cZ h0 a K V fz yX12_isKeptSelect (wsOf yX12_isKeptSelect cX12_isKeptSelect 4 (some .boolean)) (n + 0) [.ref h0, .int x1, .int x2] cs cs r9) (cs : RS) (x1 : Int32) (r9 : Int32) (hf : b_isKeptQuery F T cs x1 = some r9) : okI l dC dI cB cI cJ cZ h0 a K V fz yX12_isKeptQuery (wsOf yX12_isKeptQuery cX12_isKeptQuery 4 (some .boolean)) (n + 1 + 0) [.ref h0, .int x1] cs cs r9 := by
  intro sz
  refine Met.ofW (cc := cX12_isKeptQuery) (maxL := 4) (ret := (some .boolean)) (by decide) rfl ?_
  intro p e s m args below meth c s₁ B hml hv
  obtain ⟨rfl, hsz, hP, hK, hD0, hZ⟩ := hv
  have hx := B.exec
  have hb := B.bytes
  have hr := B.returns
  have hts := atoms_spec (ws := (wsOf yX12_isKeptQuery cX12_isKeptQuery 4 (some .boolean))) B.pre
  have hown : s.vm.findClass RX12 = some m.cls := findClass_of_methodNamed B.named
  have hlocks := B.notSynchronized
  subst hsz
  have hD := hD0.self (sz := s.heap.size)
  generalize hAe : va_A (mW cB cI cJ cZ h0 a cs) s.heap.size = A at hD hZ ⊢
  have hA : ∀ q : Nat, s.heap.size ≤ q → A q := fun q h => by rw [← hAe]; exact Or.inr h
  have hS : va_S A s.heap s.heap [] := va_S.rf
  have hl := lv_entry ([.ref h0, .int x1]) (n := 4) (Nat.le_of_ble_eq_true rfl)
  rw [lg_entry_eq]
  generalize (lg_sl ([.ref h0, .int x1]) ++ List.replicate (4 - (lg_sl ([.ref h0, .int x1])).length) Slot.unset).toArray = ls at hl ⊢
  have hl : lv_has ls 4 [(0, .ref h0), (1, .int x1)] := hl
  have L_2 : ∀ (lf_2 : Nat), ∀ (u1 : Int32) (u2 : Int32), m_isKeptQuery_L2 F T cs lf_2 u1 u2 = some r9 → ∀ (H : Heap) (locs : List Loc) (ls : Array Slot), va_P (dC, dI) vwCl (mW cB cI cJ cZ h0 a cs) H → va_D A (mW cB cI cJ cZ h0 a cs) → va_S A s.heap H locs → lv_has ls 4 [(0, .ref h0), (1, .int u1), (2, .int u2)] → W p l e (headSpec (wsOf yX12_isKeptQuery cX12_isKeptQuery 4 (some .boolean)) ({ frames := n + 1 + 0, cells := 0, slots := 0, locals := 60 * (n + 1 + 0) } : Room)).room s m ([.ref h0, .int x1] : List Value).toArray below meth c H locs 0 0 (MQ below (va_Qi (fun (x : Int32) (_ : Unit) => x = r9) (fun _ t_ => va_P (dC, dI) vwCl (mW cB cI cJ cZ h0 a cs) t_.heap ∧ va_D A (mW cB cI cJ cZ h0 a cs)) A) ([.ref h0, .int x1] : List Value).toArray s 0 0 A) (F0 m 2 ls []) := by
    intro lf_2
    induction lf_2 with
    | zero => intro u1 u2 h; cases (show (none : Option Int32) = _ from h)
    | succ lf_2 ih_2 =>
      intro u1 u2 h H locs ls hP hD hS hl
      rw [m_isKeptQuery_L2] at h
      refine lv_iload_n hx hb dX12_isKeptQuery_2 rfl (lv_at hl 2 rfl) ?_
      refine lv_aload_n hx hb dX12_isKeptQuery_3 rfl (lv_at hl 0 rfl) ?_
      refine fg_60 hx hb hts hown hK hP dX12_isKeptQuery_4 ?_
      refine lv_iload_n hx hb dX12_isKeptQuery_7 rfl (lv_at hl 1 rfl) ?_
      obtain ⟨v_1, hv_1, h⟩ := ob h
      refine ag_60 hx hb hK hP hv_1 dX12_isKeptQuery_8 ?_
      refine lv_icmp_ge (tgt := 45) hx hb dX12_isKeptQuery_9 (by decide) (fun c_2 => ?_) (fun c_2 => ?_)
      · skip
        replace h := (if_pos c_2).symm.trans h
        refine lv_iconst (v := 1) hx hb dX12_isKeptQuery_45 (by decide) ?_
        have e2 := Option.some.inj h
        exact W.zret (v := 1) hx hb hr (nzN (Or.inr rfl)) (fun t_ ht hW => ⟨⟨1, (), rfl, e2, by rw [ht]; exact hP, hD⟩, hS.F ht⟩) hS.2.2 dX12_isKeptQuery_46
      · skip
        replace h := (if_neg c_2).symm.trans h
        refine lv_aload_n hx hb dX12_isKeptQuery_12 rfl (lv_at hl 0 rfl) ?_
        refine fg_61 hx hb hts hown hK hP dX12_isKeptQuery_13 ?_
        refine lv_iconst (v := 5) hx hb dX12_isKeptQuery_16 (by decide) ?_
        refine lv_iload_n hx hb dX12_isKeptQuery_17 rfl (lv_at hl 1 rfl) ?_
        refine lv_imul hx hb dX12_isKeptQuery_18 ?_
        refine lv_iload_n hx hb dX12_isKeptQuery_19 rfl (lv_at hl 2 rfl) ?_
        refine lv_iadd hx hb dX12_isKeptQuery_20 ?_
        obtain ⟨v_3, hv_3, h⟩ := ob h
        refine ag_61 hx hb hK hP hv_3 dX12_isKeptQuery_21 ?_
        refine lv_istore_n (lv' := [(3, .int v_3), (0, .ref h0), (1, .int u1), (2, .int u2)]) hx hb dX12_isKeptQuery_22 rfl hl (by decide) rfl (fun ls hl => ?_)
        refine lv_aload_n hx hb dX12_isKeptQuery_23 rfl (lv_at hl 1 rfl) ?_
        refine lv_iload_n hx hb dX12_isKeptQuery_24 rfl (lv_at hl 0 rfl) ?_
        refine lv_aload_n hx hb dX12_isKeptQuery_25 rfl (lv_at hl 1 rfl) ?_
        refine fg_37 hx hb hts hown hK hP dX12_isKeptQuery_26 ?_
        refine lv_iload_n hx hb dX12_isKeptQuery_29 rfl (lv_at hl 0 rfl) ?_
        obtain ⟨v_4, hv_4, h⟩ := ob h
        refine ag_37 hx hb hK hP hv_4 dX12_isKeptQuery_30 ?_
        obtain ⟨v_5, hv_5, h⟩ := ob h
        refine calI (As := [.int v_3, .int v_4]) hx hb hml hts hown hK hP hD hS hA hZ (hT_isKeptSelect cs v_3 v_4 v_5 hv_5) (cw_isKeptSelect hts (fr := n + 0) (by show n + 0 + 1 ≤ n + 1 + 0; omega) (by show 8 + (4 + 11) + 60 * (n + 0) ≤ 60 * (n + 1 + 0); omega)) rfl hl.1 (Nat.le_of_ble_eq_true rfl) ⟨Nat.zero_le _, Nat.zero_le _⟩ dX12_isKeptQuery_31 (fun H locs hP hD hS => ?_)
        refine lv_if_ne (tgt := 39) hx hb dX12_isKeptQuery_34 (by decide) (fun c_6 => ?_) (fun c_6 => ?_)
        · skip
          replace h := (if_neg c_6).symm.trans h
          refine lv_iinc (v := u2 + 1) (lv' := [(2, .int (u2 + 1)), (3, .int v_3), (0, .ref h0), (1, .int u1)]) hx hb dX12_isKeptQuery_39 hl (k := 3) rfl rfl (by decide) rfl (fun ls hl => ?_)
          refine lv_goto (tgt := 2) hx hb dX12_isKeptQuery_42 (by decide) ?_
          exact ih_2 u1 (u2 + 1) h _ _ _ hP hD hS (lv_sub hl [2, 3, 0] rfl)
        · skip
          replace h := (if_pos c_6).symm.trans h
          refine lv_iconst (v := 0) hx hb dX12_isKeptQuery_37 (by decide) ?_
          have e2 := Option.some.inj h
          exact W.zret (v := 0) hx hb hr (nzN (Or.inl rfl)) (fun t_ ht hW => ⟨⟨0, (), rfl, e2, by rw [ht]; exact hP, hD⟩, hS.F ht⟩) hS.2.2 dX12_isKeptQuery_38
  have h := hf
  unfold b_isKeptQuery at h
  refine lv_iconst (v := 0) hx hb dX12_isKeptQuery_0 (by decide) ?_
  refine lv_istore_n (lv' := [(2, .int 0), (0, .ref h0), (1, .int x1)]) hx hb dX12_isKeptQuery_1 rfl hl (by decide) rfl (fun ls hl => ?_)
  exact L_2 F x1 0 h _ _ _ hP hD hS (lv_sub hl [1, 2, 0] rfl)
set_option maxHeartbeats 4000000 in
set_option maxRecDepth 100000 in
theorem sb_isKeptSelect (l : Launch) (dC : Nat → ClassId) (dI : Nat → Nat → Nat) (cB cI cJ cZ : ClassId) (h0 : Nat) (a : Nat → Nat) (K V : Nat → Nat) (fz : Value) (F : Nat) (n : Nat) (T : TG_isKept) (hT_isKept : ∀ (cs : RS) (x1 : Int32) (r9 : Int32), T.1 cs x1 = some r9 → okI l dC dI cB cI cJ cZ h0 a K V fz yX12_isKept (wsOf yX12_isKept cX12_isKept 2 (some .boolean)) (n + 0) [.ref h0, .int x1] cs cs r9) (hT_isKeptQuery : ∀ (cs : RS) (x1 : Int32) (r9 : Int32), T.2.1 cs x1 = some r9 → okI l dC dI cB cI cJ cZ h0 a K V fz yX12_isKeptQuery (wsOf yX12_isKeptQuery cX12_isKeptQuery 4 (some .boolean)) (n + 0) [.ref h0, .int x1] cs cs r9) (hT_isKeptSelect : ∀ (cs : RS) (x1 : Int32) (x2 : Int32) (r9 : Int32), T.2.2 cs x1 x2 = some r9 → okI l dC dI cB cI cJ cZ h0 a K V fz yX12_isKeptSelect (wsOf yX12_isKeptSelect cX12_isKeptSelect 4 (some .boolean)) (n + 0) [.ref h0, .int x1, .int x2] cs cs r9) (cs : RS) (x1 : Int32) (x2 : Int32) (r9 : Int32) (hf : b_isKeptSelect F T cs x1 x2 = some r9) : okI l dC dI cB cI cJ cZ h0 a K V fz yX12_isKeptSelect (wsOf yX12_isKeptSelect cX12_isKeptSelect 4 (some .boolean)) (n + 1 + 0) [.ref h0, .int x1, .int x2] cs cs r9 := by
  intro sz
  refine Met.ofW (cc := cX12_isKeptSelect) (maxL := 4) (ret := (some .boolean)) (by decide) rfl ?_
  intro p e s m args below meth c s₁ B hml hv
  obtain ⟨rfl, hsz, hP, hK, hD0, hZ⟩ := hv
  have hx := B.exec
  have hb := B.bytes
  have hr := B.returns
  have hts := atoms_spec (ws := (wsOf yX12_isKeptSelect cX12_isKeptSelect 4 (some .boolean))) B.pre
  have hown : s.vm.findClass RX12 = some m.cls := findClass_of_methodNamed B.named
  have hlocks := B.notSynchronized
  subst hsz
  have hD := hD0.self (sz := s.heap.size)
  generalize hAe : va_A (mW cB cI cJ cZ h0 a cs) s.heap.size = A at hD hZ ⊢
  have hA : ∀ q : Nat, s.heap.size ≤ q → A q := fun q h => by rw [← hAe]; exact Or.inr h
  have hS : va_S A s.heap s.heap [] := va_S.rf
  have hl := lv_entry ([.ref h0, .int x1, .int x2]) (n := 4) (Nat.le_of_ble_eq_true rfl)
  rw [lg_entry_eq]
  generalize (lg_sl ([.ref h0, .int x1, .int x2]) ++ List.replicate (4 - (lg_sl ([.ref h0, .int x1, .int x2])).length) Slot.unset).toArray = ls at hl ⊢
  have hl : lv_has ls 4 [(0, .ref h0), (1, .int x1), (2, .int x2)] := hl
  have L_2 : ∀ (lf_2 : Nat), ∀ (u1 : Int32) (u2 : Int32) (u3 : Int32), m_isKeptSelect_L2 F T cs lf_2 u1 u2 u3 = some r9 → ∀ (H : Heap) (locs : List Loc) (ls : Array Slot), va_P (dC, dI) vwCl (mW cB cI cJ cZ h0 a cs) H → va_D A (mW cB cI cJ cZ h0 a cs) → va_S A s.heap H locs → lv_has ls 4 [(0, .ref h0), (1, .int u1), (2, .int u2), (3, .int u3)] → W p l e (headSpec (wsOf yX12_isKeptSelect cX12_isKeptSelect 4 (some .boolean)) ({ frames := n + 1 + 0, cells := 0, slots := 0, locals := 60 * (n + 1 + 0) } : Room)).room s m ([.ref h0, .int x1, .int x2] : List Value).toArray below meth c H locs 0 0 (MQ below (va_Qi (fun (x : Int32) (_ : Unit) => x = r9) (fun _ t_ => va_P (dC, dI) vwCl (mW cB cI cJ cZ h0 a cs) t_.heap ∧ va_D A (mW cB cI cJ cZ h0 a cs)) A) ([.ref h0, .int x1, .int x2] : List Value).toArray s 0 0 A) (F0 m 2 ls []) := by
    intro lf_2
    induction lf_2 with
    | zero => intro u1 u2 u3 h; cases (show (none : Option Int32) = _ from h)
    | succ lf_2 ih_2 =>
      intro u1 u2 u3 h H locs ls hP hD hS hl
      rw [m_isKeptSelect_L2] at h
      refine lv_iload_n hx hb dX12_isKeptSelect_2 rfl (lv_at hl 3 rfl) ?_
      refine lv_iload_n hx hb dX12_isKeptSelect_3 rfl (lv_at hl 2 rfl) ?_
      refine lv_icmp_ge (tgt := 27) hx hb dX12_isKeptSelect_4 (by decide) (fun c_1 => ?_) (fun c_1 => ?_)
      · skip
        replace h := (if_pos c_1).symm.trans h
        refine lv_iconst (v := 1) hx hb dX12_isKeptSelect_27 (by decide) ?_
        have e2 := Option.some.inj h
        exact W.zret (v := 1) hx hb hr (nzN (Or.inr rfl)) (fun t_ ht hW => ⟨⟨1, (), rfl, e2, by rw [ht]; exact hP, hD⟩, hS.F ht⟩) hS.2.2 dX12_isKeptSelect_28
      · skip
        replace h := (if_neg c_1).symm.trans h
        refine lv_aload_n hx hb dX12_isKeptSelect_7 rfl (lv_at hl 0 rfl) ?_
        refine lv_iconst (v := 3) hx hb dX12_isKeptSelect_8 (by decide) ?_
        refine lv_iload_n hx hb dX12_isKeptSelect_9 rfl (lv_at hl 1 rfl) ?_
        refine lv_imul hx hb dX12_isKeptSelect_10 ?_
        refine lv_iload_n hx hb dX12_isKeptSelect_11 rfl (lv_at hl 3 rfl) ?_
        refine lv_iadd hx hb dX12_isKeptSelect_12 ?_
        obtain ⟨v_2, hv_2, h⟩ := ob h
        refine calI (As := [.int ((3 * u1) + u3)]) hx hb hml hts hown hK hP hD hS hA hZ (hT_isKept cs ((3 * u1) + u3) v_2 hv_2) (cw_isKept hts (fr := n + 0) (by show n + 0 + 1 ≤ n + 1 + 0; omega) (by show 8 + (2 + 11) + 60 * (n + 0) ≤ 60 * (n + 1 + 0); omega)) rfl hl.1 (Nat.le_of_ble_eq_true rfl) ⟨Nat.zero_le _, Nat.zero_le _⟩ dX12_isKeptSelect_13 (fun H locs hP hD hS => ?_)
        refine lv_if_ne (tgt := 21) hx hb dX12_isKeptSelect_16 (by decide) (fun c_3 => ?_) (fun c_3 => ?_)
        · skip
          replace h := (if_neg c_3).symm.trans h
          refine lv_iinc (v := u3 + 1) (lv' := [(3, .int (u3 + 1)), (0, .ref h0), (1, .int u1), (2, .int u2)]) hx hb dX12_isKeptSelect_21 hl (k := 3) rfl rfl (by decide) rfl (fun ls hl => ?_)
          refine lv_goto (tgt := 2) hx hb dX12_isKeptSelect_24 (by decide) ?_
          exact ih_2 u1 u2 (u3 + 1) h _ _ _ hP hD hS (lv_sub hl [1, 2, 3, 0] rfl)
        · skip
          replace h := (if_pos c_3).symm.trans h
          refine lv_iconst (v := 0) hx hb dX12_isKeptSelect_19 (by decide) ?_
          have e2 := Option.some.inj h
          exact W.zret (v := 0) hx hb hr (nzN (Or.inl rfl)) (fun t_ ht hW => ⟨⟨0, (), rfl, e2, by rw [ht]; exact hP, hD⟩, hS.F ht⟩) hS.2.2 dX12_isKeptSelect_20
  have h := hf
  unfold b_isKeptSelect at h
  refine lv_iconst (v := 0) hx hb dX12_isKeptSelect_0 (by decide) ?_
  refine lv_istore_n (lv' := [(3, .int 0), (0, .ref h0), (1, .int x1), (2, .int x2)]) hx hb dX12_isKeptSelect_1 rfl hl (by decide) rfl (fun ls hl => ?_)
  exact L_2 F x1 x2 0 h _ _ _ hP hD hS (lv_sub hl [1, 2, 3, 0] rfl)
theorem sg_isKept (l : Launch) (dC : Nat → ClassId) (dI : Nat → Nat → Nat) (cB cI cJ cZ : ClassId) (h0 : Nat) (a : Nat → Nat) (K V : Nat → Nat) (fz : Value) (F : Nat) : ∀ n : Nat, (∀ (cs : RS) (x1 : Int32) (r9 : Int32), (tab_isKept F n).1 cs x1 = some r9 → okI l dC dI cB cI cJ cZ h0 a K V fz yX12_isKept (wsOf yX12_isKept cX12_isKept 2 (some .boolean)) (n + 0) [.ref h0, .int x1] cs cs r9) ∧ (∀ (cs : RS) (x1 : Int32) (r9 : Int32), (tab_isKept F n).2.1 cs x1 = some r9 → okI l dC dI cB cI cJ cZ h0 a K V fz yX12_isKeptQuery (wsOf yX12_isKeptQuery cX12_isKeptQuery 4 (some .boolean)) (n + 0) [.ref h0, .int x1] cs cs r9) ∧ (∀ (cs : RS) (x1 : Int32) (x2 : Int32) (r9 : Int32), (tab_isKept F n).2.2 cs x1 x2 = some r9 → okI l dC dI cB cI cJ cZ h0 a K V fz yX12_isKeptSelect (wsOf yX12_isKeptSelect cX12_isKeptSelect 4 (some .boolean)) (n + 0) [.ref h0, .int x1, .int x2] cs cs r9) := by
  intro n
  induction n with
  | zero => exact ⟨fun _ _ _ h => (by cases (show (none : Option Int32) = _ from h)), fun _ _ _ h => (by cases (show (none : Option Int32) = _ from h)), fun _ _ _ _ h => (by cases (show (none : Option Int32) = _ from h))⟩
  | succ n ih =>
    obtain ⟨hh0, hh1, hh2⟩ := ih
    exact ⟨fun cs w0 w1 hf => sb_isKept l dC dI cB cI cJ cZ h0 a K V fz F n (tab_isKept F n) hh0 hh1 hh2 cs w0 w1 hf, fun cs w0 w1 hf => sb_isKeptQuery l dC dI cB cI cJ cZ h0 a K V fz F n (tab_isKept F n) hh0 hh1 hh2 cs w0 w1 hf, fun cs w0 w1 w2 hf => sb_isKeptSelect l dC dI cB cI cJ cZ h0 a K V fz F n (tab_isKept F n) hh0 hh1 hh2 cs w0 w1 w2 hf⟩
def m_isKept (F n : Nat) (cs : RS) (x1 : Int32) : Option Int32 := (tab_isKept F n).1 cs x1
theorem s_isKept (l : Launch) (dC : Nat → ClassId) (dI : Nat → Nat → Nat) (cB cI cJ cZ : ClassId) (h0 : Nat) (a : Nat → Nat) (K V : Nat → Nat) (fz : Value) (F n : Nat) (cs : RS) (x1 : Int32) (r9 : Int32) (hf : m_isKept F n cs x1 = some r9) : okI l dC dI cB cI cJ cZ h0 a K V fz yX12_isKept (wsOf yX12_isKept cX12_isKept 2 (some .boolean)) (n + 0) [.ref h0, .int x1] cs cs r9 := (sg_isKept l dC dI cB cI cJ cZ h0 a K V fz F n).1 cs x1 r9 hf
def m_isKeptQuery (F n : Nat) (cs : RS) (x1 : Int32) : Option Int32 := (tab_isKept F n).2.1 cs x1
theorem s_isKeptQuery (l : Launch) (dC : Nat → ClassId) (dI : Nat → Nat → Nat) (cB cI cJ cZ : ClassId) (h0 : Nat) (a : Nat → Nat) (K V : Nat → Nat) (fz : Value) (F n : Nat) (cs : RS) (x1 : Int32) (r9 : Int32) (hf : m_isKeptQuery F n cs x1 = some r9) : okI l dC dI cB cI cJ cZ h0 a K V fz yX12_isKeptQuery (wsOf yX12_isKeptQuery cX12_isKeptQuery 4 (some .boolean)) (n + 0) [.ref h0, .int x1] cs cs r9 := (sg_isKept l dC dI cB cI cJ cZ h0 a K V fz F n).2.1 cs x1 r9 hf
def m_isKeptSelect (F n : Nat) (cs : RS) (x1 : Int32) (x2 : Int32) : Option Int32 := (tab_isKept F n).2.2 cs x1 x2
theorem s_isKeptSelect (l : Launch) (dC : Nat → ClassId) (dI : Nat → Nat → Nat) (cB cI cJ cZ : ClassId) (h0 : Nat) (a : Nat → Nat) (K V : Nat → Nat) (fz : Value) (F n : Nat) (cs : RS) (x1 : Int32) (x2 : Int32) (r9 : Int32) (hf : m_isKeptSelect F n cs x1 x2 = some r9) : okI l dC dI cB cI cJ cZ h0 a K V fz yX12_isKeptSelect (wsOf yX12_isKeptSelect cX12_isKeptSelect 4 (some .boolean)) (n + 0) [.ref h0, .int x1, .int x2] cs cs r9 := (sg_isKept l dC dI cB cI cJ cZ h0 a K V fz F n).2.2 cs x1 x2 r9 hf
theorem dX12_areNamed_0 : decode cX12_areNamed 0 = .ok (.iconst 0, 1) := by decide +kernel
theorem dX12_areNamed_1 : decode cX12_areNamed 1 = .ok (.istore_n 2, 1) := by decide +kernel
theorem dX12_areNamed_2 : decode cX12_areNamed 2 = .ok (.iload_n 2, 1) := by decide +kernel
theorem dX12_areNamed_3 : decode cX12_areNamed 3 = .ok (.aload_n 0, 1) := by decide +kernel
theorem dX12_areNamed_4 : decode cX12_areNamed 4 = .ok (.getfield 88, 3) := by decide +kernel
theorem dX12_areNamed_7 : decode cX12_areNamed 7 = .ok (.iload_n 1, 1) := by decide +kernel
theorem dX12_areNamed_8 : decode cX12_areNamed 8 = .ok (.iaload, 1) := by decide +kernel
theorem dX12_areNamed_9 : decode cX12_areNamed 9 = .ok (.if_icmp .ge 65, 3) := by decide +kernel
theorem dX12_areNamed_12 : decode cX12_areNamed 12 = .ok (.aload_n 0, 1) := by decide +kernel
theorem dX12_areNamed_13 : decode cX12_areNamed 13 = .ok (.getfield 115, 3) := by decide +kernel
theorem dX12_areNamed_16 : decode cX12_areNamed 16 = .ok (.bipush 8, 2) := by decide +kernel
theorem dX12_areNamed_18 : decode cX12_areNamed 18 = .ok (.iload_n 1, 1) := by decide +kernel
theorem dX12_areNamed_19 : decode cX12_areNamed 19 = .ok (.imul, 1) := by decide +kernel
theorem dX12_areNamed_20 : decode cX12_areNamed 20 = .ok (.iload_n 2, 1) := by decide +kernel
theorem dX12_areNamed_21 : decode cX12_areNamed 21 = .ok (.iadd, 1) := by decide +kernel
theorem dX12_areNamed_22 : decode cX12_areNamed 22 = .ok (.iaload, 1) := by decide +kernel
theorem dX12_areNamed_23 : decode cX12_areNamed 23 = .ok (.istore_n 3, 1) := by decide +kernel
theorem dX12_areNamed_24 : decode cX12_areNamed 24 = .ok (.iload_n 3, 1) := by decide +kernel
theorem dX12_areNamed_25 : decode cX12_areNamed 25 = .ok (.iconst (-1), 1) := by decide +kernel
theorem dX12_areNamed_26 : decode cX12_areNamed 26 = .ok (.if_icmp .ne 5, 3) := by decide +kernel
theorem dX12_areNamed_29 : decode cX12_areNamed 29 = .ok (.iconst 0, 1) := by decide +kernel
theorem dX12_areNamed_30 : decode cX12_areNamed 30 = .ok (.ireturn, 1) := by decide +kernel
theorem dX12_areNamed_31 : decode cX12_areNamed 31 = .ok (.iconst 0, 1) := by decide +kernel
theorem dX12_areNamed_32 : decode cX12_areNamed 32 = .ok (.istore 4, 2) := by decide +kernel
theorem dX12_areNamed_34 : decode cX12_areNamed 34 = .ok (.iload 4, 2) := by decide +kernel
theorem dX12_areNamed_36 : decode cX12_areNamed 36 = .ok (.iload_n 2, 1) := by decide +kernel
theorem dX12_areNamed_37 : decode cX12_areNamed 37 = .ok (.if_icmp .ge 31, 3) := by decide +kernel
theorem dX12_areNamed_40 : decode cX12_areNamed 40 = .ok (.aload_n 0, 1) := by decide +kernel
theorem dX12_areNamed_41 : decode cX12_areNamed 41 = .ok (.iload_n 3, 1) := by decide +kernel
theorem dX12_areNamed_42 : decode cX12_areNamed 42 = .ok (.aload_n 0, 1) := by decide +kernel
theorem dX12_areNamed_43 : decode cX12_areNamed 43 = .ok (.getfield 115, 3) := by decide +kernel
theorem dX12_areNamed_46 : decode cX12_areNamed 46 = .ok (.bipush 8, 2) := by decide +kernel
theorem dX12_areNamed_48 : decode cX12_areNamed 48 = .ok (.iload_n 1, 1) := by decide +kernel
theorem dX12_areNamed_49 : decode cX12_areNamed 49 = .ok (.imul, 1) := by decide +kernel
theorem dX12_areNamed_50 : decode cX12_areNamed 50 = .ok (.iload 4, 2) := by decide +kernel
theorem dX12_areNamed_52 : decode cX12_areNamed 52 = .ok (.iadd, 1) := by decide +kernel
theorem dX12_areNamed_53 : decode cX12_areNamed 53 = .ok (.iaload, 1) := by decide +kernel
theorem dX12_areNamed_54 : decode cX12_areNamed 54 = .ok (.invokevirtual 508, 3) := by decide +kernel
theorem dX12_areNamed_57 : decode cX12_areNamed 57 = .ok (.ifCond .eq 5, 3) := by decide +kernel
theorem dX12_areNamed_60 : decode cX12_areNamed 60 = .ok (.iconst 0, 1) := by decide +kernel
theorem dX12_areNamed_61 : decode cX12_areNamed 61 = .ok (.ireturn, 1) := by decide +kernel
theorem dX12_areNamed_62 : decode cX12_areNamed 62 = .ok (.iinc 4 1, 3) := by decide +kernel
theorem dX12_areNamed_65 : decode cX12_areNamed 65 = .ok (.goto (-31), 3) := by decide +kernel
theorem dX12_areNamed_68 : decode cX12_areNamed 68 = .ok (.iinc 2 1, 3) := by decide +kernel
theorem dX12_areNamed_71 : decode cX12_areNamed 71 = .ok (.goto (-69), 3) := by decide +kernel
theorem dX12_areNamed_74 : decode cX12_areNamed 74 = .ok (.iconst 1, 1) := by decide +kernel
theorem dX12_areNamed_75 : decode cX12_areNamed 75 = .ok (.ireturn, 1) := by decide +kernel
def m_areNamed_L34 (F : Nat) (cs : RS) (rc2 : Int32 → Int32 → Option Int32) : Nat → Int32 → Int32 → Int32 → Int32 → Option Int32
  | 0, _, _, _, _ => none
  | lf_34 + 1, u1, u2, u3, u4 => if u2 ≤ u4 then (rc2 u1 (u2 + 1)) else (Option.bind (rdI (cs.2.2.1 45) 480 ((8 * u1) + u4)) fun v_2 => Option.bind (m_isSame F cs u3 v_2) fun v_3 => if v_3 = 0 then ((m_areNamed_L34 F cs rc2 lf_34) u1 u2 u3 (u4 + 1)) else (some 0))
def m_areNamed_L2 (F : Nat) (cs : RS) : Nat → Int32 → Int32 → Option Int32
  | 0, _, _ => none
  | lf_2 + 1, u1, u2 => Option.bind (rdI (cs.2.2.1 36) 60 u1) fun v_5 => if v_5 ≤ u2 then (some 1) else (Option.bind (rdI (cs.2.2.1 45) 480 ((8 * u1) + u2)) fun v_7 => if v_7 = (-1) then (some 0) else (m_areNamed_L34 F cs (m_areNamed_L2 F cs lf_2) F u1 u2 v_7 0))
def m_areNamed (F : Nat) (cs : RS) (x1 : Int32) : Option Int32 := m_areNamed_L2 F cs F x1 0
set_option maxHeartbeats 4000000 in
set_option maxRecDepth 100000 in
theorem s_areNamed (l : Launch) (dC : Nat → ClassId) (dI : Nat → Nat → Nat) (cB cI cJ cZ : ClassId) (h0 : Nat) (a : Nat → Nat) (K V : Nat → Nat) (fz : Value) (F : Nat) (cs : RS) (x1 : Int32) (r9 : Int32) (hf : m_areNamed F cs x1 = some r9) : okI l dC dI cB cI cJ cZ h0 a K V fz yX12_areNamed (wsOf yX12_areNamed cX12_areNamed 5 (some .boolean)) (1) [.ref h0, .int x1] cs cs r9 := by
  intro sz
  refine Met.ofW (cc := cX12_areNamed) (maxL := 5) (ret := (some .boolean)) (by decide) rfl ?_
  intro p e s m args below meth c s₁ B hml hv
  obtain ⟨rfl, hsz, hP, hK, hD0, hZ⟩ := hv
  have hx := B.exec
  have hb := B.bytes
  have hr := B.returns
  have hts := atoms_spec (ws := (wsOf yX12_areNamed cX12_areNamed 5 (some .boolean))) B.pre
  have hown : s.vm.findClass RX12 = some m.cls := findClass_of_methodNamed B.named
  have hlocks := B.notSynchronized
  subst hsz
  have hD := hD0.self (sz := s.heap.size)
  generalize hAe : va_A (mW cB cI cJ cZ h0 a cs) s.heap.size = A at hD hZ ⊢
  have hA : ∀ q : Nat, s.heap.size ≤ q → A q := fun q h => by rw [← hAe]; exact Or.inr h
  have hS : va_S A s.heap s.heap [] := va_S.rf
  have hl := lv_entry ([.ref h0, .int x1]) (n := 5) (Nat.le_of_ble_eq_true rfl)
  rw [lg_entry_eq]
  generalize (lg_sl ([.ref h0, .int x1]) ++ List.replicate (5 - (lg_sl ([.ref h0, .int x1])).length) Slot.unset).toArray = ls at hl ⊢
  have hl : lv_has ls 5 [(0, .ref h0), (1, .int x1)] := hl
  have L_2 : ∀ (lf_2 : Nat), ∀ (u1 : Int32) (u2 : Int32), m_areNamed_L2 F cs lf_2 u1 u2 = some r9 → ∀ (H : Heap) (locs : List Loc) (ls : Array Slot), va_P (dC, dI) vwCl (mW cB cI cJ cZ h0 a cs) H → va_D A (mW cB cI cJ cZ h0 a cs) → va_S A s.heap H locs → lv_has ls 5 [(0, .ref h0), (1, .int u1), (2, .int u2)] → W p l e (headSpec (wsOf yX12_areNamed cX12_areNamed 5 (some .boolean)) ({ frames := 1, cells := 0, slots := 0, locals := 60 * (1) } : Room)).room s m ([.ref h0, .int x1] : List Value).toArray below meth c H locs 0 0 (MQ below (va_Qi (fun (x : Int32) (_ : Unit) => x = r9) (fun _ t_ => va_P (dC, dI) vwCl (mW cB cI cJ cZ h0 a cs) t_.heap ∧ va_D A (mW cB cI cJ cZ h0 a cs)) A) ([.ref h0, .int x1] : List Value).toArray s 0 0 A) (F0 m 2 ls []) := by
    intro lf_2
    induction lf_2 with
    | zero => intro u1 u2 h; cases (show (none : Option Int32) = _ from h)
    | succ lf_2 ih_2 =>
      have L_34 : ∀ (lf_34 : Nat), ∀ (u1 : Int32) (u2 : Int32) (u3 : Int32) (u4 : Int32), m_areNamed_L34 F cs (m_areNamed_L2 F cs lf_2) lf_34 u1 u2 u3 u4 = some r9 → ∀ (H : Heap) (locs : List Loc) (ls : Array Slot), va_P (dC, dI) vwCl (mW cB cI cJ cZ h0 a cs) H → va_D A (mW cB cI cJ cZ h0 a cs) → va_S A s.heap H locs → lv_has ls 5 [(0, .ref h0), (1, .int u1), (2, .int u2), (3, .int u3), (4, .int u4)] → W p l e (headSpec (wsOf yX12_areNamed cX12_areNamed 5 (some .boolean)) ({ frames := 1, cells := 0, slots := 0, locals := 60 * (1) } : Room)).room s m ([.ref h0, .int x1] : List Value).toArray below meth c H locs 0 0 (MQ below (va_Qi (fun (x : Int32) (_ : Unit) => x = r9) (fun _ t_ => va_P (dC, dI) vwCl (mW cB cI cJ cZ h0 a cs) t_.heap ∧ va_D A (mW cB cI cJ cZ h0 a cs)) A) ([.ref h0, .int x1] : List Value).toArray s 0 0 A) (F0 m 34 ls []) := by
        intro lf_34
        induction lf_34 with
        | zero => intro u1 u2 u3 u4 h; cases (show (none : Option Int32) = _ from h)
        | succ lf_34 ih_34 =>
          intro u1 u2 u3 u4 h H locs ls hP hD hS hl
          rw [m_areNamed_L34] at h
          refine lv_iload hx hb dX12_areNamed_34 (lv_at hl 4 rfl) ?_
          refine lv_iload_n hx hb dX12_areNamed_36 rfl (lv_at hl 2 rfl) ?_
          refine lv_icmp_ge (tgt := 68) hx hb dX12_areNamed_37 (by decide) (fun c_1 => ?_) (fun c_1 => ?_)
          · skip
            replace h := (if_pos c_1).symm.trans h
            refine lv_iinc (v := u2 + 1) (lv' := [(2, .int (u2 + 1)), (0, .ref h0), (1, .int u1), (3, .int u3), (4, .int u4)]) hx hb dX12_areNamed_68 hl (k := 2) rfl rfl (by decide) rfl (fun ls hl => ?_)
            refine lv_goto (tgt := 2) hx hb dX12_areNamed_71 (by decide) ?_
            exact ih_2 u1 (u2 + 1) h _ _ _ hP hD hS (lv_sub hl [1, 2, 0] rfl)
          · skip
            replace h := (if_neg c_1).symm.trans h
            refine lv_aload_n hx hb dX12_areNamed_40 rfl (lv_at hl 0 rfl) ?_
            refine lv_iload_n hx hb dX12_areNamed_41 rfl (lv_at hl 3 rfl) ?_
            refine lv_aload_n hx hb dX12_areNamed_42 rfl (lv_at hl 0 rfl) ?_
            refine fg_45 hx hb hts hown hK hP dX12_areNamed_43 ?_
            refine lv_bipush (v := 8) hx hb dX12_areNamed_46 (by decide) ?_
            refine lv_iload_n hx hb dX12_areNamed_48 rfl (lv_at hl 1 rfl) ?_
            refine lv_imul hx hb dX12_areNamed_49 ?_
            refine lv_iload hx hb dX12_areNamed_50 (lv_at hl 4 rfl) ?_
            refine lv_iadd hx hb dX12_areNamed_52 ?_
            obtain ⟨v_2, hv_2, h⟩ := ob h
            refine ag_45 hx hb hK hP hv_2 dX12_areNamed_53 ?_
            obtain ⟨v_3, hv_3, h⟩ := ob h
            refine calI (As := [.int u3, .int v_2]) hx hb hml hts hown hK hP hD hS hA hZ (s_isSame l dC dI cB cI cJ cZ h0 a K V fz F cs u3 v_2 v_3 hv_3) (cw_isSame hts (fr := 0) (Nat.le_of_ble_eq_true rfl) (Nat.le_of_ble_eq_true rfl)) rfl hl.1 (Nat.le_of_ble_eq_true rfl) ⟨Nat.zero_le _, Nat.zero_le _⟩ dX12_areNamed_54 (fun H locs hP hD hS => ?_)
            refine lv_if_eq (tgt := 62) hx hb dX12_areNamed_57 (by decide) (fun c_4 => ?_) (fun c_4 => ?_)
            · skip
              replace h := (if_pos c_4).symm.trans h
              refine lv_iinc (v := u4 + 1) (lv' := [(4, .int (u4 + 1)), (0, .ref h0), (1, .int u1), (2, .int u2), (3, .int u3)]) hx hb dX12_areNamed_62 hl (k := 4) rfl rfl (by decide) rfl (fun ls hl => ?_)
              refine lv_goto (tgt := 34) hx hb dX12_areNamed_65 (by decide) ?_
              exact ih_34 u1 u2 u3 (u4 + 1) h _ _ _ hP hD hS (lv_sub hl [1, 2, 3, 4, 0] rfl)
            · skip
              replace h := (if_neg c_4).symm.trans h
              refine lv_iconst (v := 0) hx hb dX12_areNamed_60 (by decide) ?_
              have e2 := Option.some.inj h
              exact W.zret (v := 0) hx hb hr (nzN (Or.inl rfl)) (fun t_ ht hW => ⟨⟨0, (), rfl, e2, by rw [ht]; exact hP, hD⟩, hS.F ht⟩) hS.2.2 dX12_areNamed_61
      intro u1 u2 h H locs ls hP hD hS hl
      rw [m_areNamed_L2] at h
      refine lv_iload_n hx hb dX12_areNamed_2 rfl (lv_at hl 2 rfl) ?_
      refine lv_aload_n hx hb dX12_areNamed_3 rfl (lv_at hl 0 rfl) ?_
      refine fg_36 hx hb hts hown hK hP dX12_areNamed_4 ?_
      refine lv_iload_n hx hb dX12_areNamed_7 rfl (lv_at hl 1 rfl) ?_
      obtain ⟨v_5, hv_5, h⟩ := ob h
      refine ag_36 hx hb hK hP hv_5 dX12_areNamed_8 ?_
      refine lv_icmp_ge (tgt := 74) hx hb dX12_areNamed_9 (by decide) (fun c_6 => ?_) (fun c_6 => ?_)
      · skip
        replace h := (if_pos c_6).symm.trans h
        refine lv_iconst (v := 1) hx hb dX12_areNamed_74 (by decide) ?_
        have e2 := Option.some.inj h
        exact W.zret (v := 1) hx hb hr (nzN (Or.inr rfl)) (fun t_ ht hW => ⟨⟨1, (), rfl, e2, by rw [ht]; exact hP, hD⟩, hS.F ht⟩) hS.2.2 dX12_areNamed_75
      · skip
        replace h := (if_neg c_6).symm.trans h
        refine lv_aload_n hx hb dX12_areNamed_12 rfl (lv_at hl 0 rfl) ?_
        refine fg_45 hx hb hts hown hK hP dX12_areNamed_13 ?_
        refine lv_bipush (v := 8) hx hb dX12_areNamed_16 (by decide) ?_
        refine lv_iload_n hx hb dX12_areNamed_18 rfl (lv_at hl 1 rfl) ?_
        refine lv_imul hx hb dX12_areNamed_19 ?_
        refine lv_iload_n hx hb dX12_areNamed_20 rfl (lv_at hl 2 rfl) ?_
        refine lv_iadd hx hb dX12_areNamed_21 ?_
        obtain ⟨v_7, hv_7, h⟩ := ob h
        refine ag_45 hx hb hK hP hv_7 dX12_areNamed_22 ?_
        refine lv_istore_n (lv' := [(3, .int v_7), (0, .ref h0), (1, .int u1), (2, .int u2)]) hx hb dX12_areNamed_23 rfl hl (by decide) rfl (fun ls hl => ?_)
        refine lv_iload_n hx hb dX12_areNamed_24 rfl (lv_at hl 0 rfl) ?_
        refine lv_iconst (v := (-1)) hx hb dX12_areNamed_25 (by decide) ?_
        refine lv_icmp_ne (tgt := 31) hx hb dX12_areNamed_26 (by decide) (fun c_8 => ?_) (fun c_8 => ?_)
        · skip
          replace h := (if_neg c_8).symm.trans h
          refine lv_iconst (v := 0) hx hb dX12_areNamed_31 (by decide) ?_
          refine lv_istore (lv' := [(4, .int 0), (3, .int v_7), (0, .ref h0), (1, .int u1), (2, .int u2)]) hx hb dX12_areNamed_32 hl (by decide) rfl (fun ls hl => ?_)
          exact L_34 F u1 u2 v_7 0 h _ _ _ hP hD hS (lv_sub hl [2, 3, 4, 1, 0] rfl)
        · skip
          replace h := (if_pos c_8).symm.trans h
          refine lv_iconst (v := 0) hx hb dX12_areNamed_29 (by decide) ?_
          have e2 := Option.some.inj h
          exact W.zret (v := 0) hx hb hr (nzN (Or.inl rfl)) (fun t_ ht hW => ⟨⟨0, (), rfl, e2, by rw [ht]; exact hP, hD⟩, hS.F ht⟩) hS.2.2 dX12_areNamed_30
  have h := hf
  unfold m_areNamed at h
  refine lv_iconst (v := 0) hx hb dX12_areNamed_0 (by decide) ?_
  refine lv_istore_n (lv' := [(2, .int 0), (0, .ref h0), (1, .int x1)]) hx hb dX12_areNamed_1 rfl hl (by decide) rfl (fun ls hl => ?_)
  exact L_2 F x1 0 h _ _ _ hP hD hS (lv_sub hl [1, 2, 0] rfl)
theorem cw_areNamed {R : Room} {s : State} {args : Array Value} {y0 : MethodName} {c0 : ByteArray} {n0 : Nat} {r0 : Option FieldType} (hts : ∀ w ∈ wsOf y0 c0 n0 r0, w.before args s = true) {fr : Nat} (h1 : fr + 1 ≤ R.frames) (h2 : 8 + (5 + 11) + 60 * fr ≤ R.locals) : CallW R s args RX12 RX12 565 yX12_areNamed cX12_areNamed 5 (some .boolean) (wsOf yX12_areNamed cX12_areNamed 5 (some .boolean)) ({ frames := fr, cells := 0, slots := 0, locals := 60 * fr } : Room) 0 0 1 := cwV 1 hts (gd_all (in_V kw_2403 kw_2405 kw_164 kw_191 kc_X12_areNamed)) rfl rfl rfl (by decide +kernel) ⟨h1, h2⟩
abbrev TG_judgeQuery : Type := (RS → Int32 → Option RS) × (RS → Int32 → Option RS)
theorem dX12_judgeQuery_0 : decode cX12_judgeQuery 0 = .ok (.aload_n 0, 1) := by decide +kernel
theorem dX12_judgeQuery_1 : decode cX12_judgeQuery 1 = .ok (.getfield 160, 3) := by decide +kernel
theorem dX12_judgeQuery_4 : decode cX12_judgeQuery 4 = .ok (.iconst 5, 1) := by decide +kernel
theorem dX12_judgeQuery_5 : decode cX12_judgeQuery 5 = .ok (.iload_n 1, 1) := by decide +kernel
theorem dX12_judgeQuery_6 : decode cX12_judgeQuery 6 = .ok (.imul, 1) := by decide +kernel
theorem dX12_judgeQuery_7 : decode cX12_judgeQuery 7 = .ok (.iaload, 1) := by decide +kernel
theorem dX12_judgeQuery_8 : decode cX12_judgeQuery 8 = .ok (.istore_n 2, 1) := by decide +kernel
theorem dX12_judgeQuery_9 : decode cX12_judgeQuery 9 = .ok (.iconst 1, 1) := by decide +kernel
theorem dX12_judgeQuery_10 : decode cX12_judgeQuery 10 = .ok (.istore_n 3, 1) := by decide +kernel
theorem dX12_judgeQuery_11 : decode cX12_judgeQuery 11 = .ok (.iconst 0, 1) := by decide +kernel
theorem dX12_judgeQuery_12 : decode cX12_judgeQuery 12 = .ok (.istore 4, 2) := by decide +kernel
theorem dX12_judgeQuery_14 : decode cX12_judgeQuery 14 = .ok (.iload 4, 2) := by decide +kernel
theorem dX12_judgeQuery_16 : decode cX12_judgeQuery 16 = .ok (.aload_n 0, 1) := by decide +kernel
theorem dX12_judgeQuery_17 : decode cX12_judgeQuery 17 = .ok (.getfield 157, 3) := by decide +kernel
theorem dX12_judgeQuery_20 : decode cX12_judgeQuery 20 = .ok (.iload_n 1, 1) := by decide +kernel
theorem dX12_judgeQuery_21 : decode cX12_judgeQuery 21 = .ok (.iaload, 1) := by decide +kernel
theorem dX12_judgeQuery_22 : decode cX12_judgeQuery 22 = .ok (.if_icmp .ge 205, 3) := by decide +kernel
theorem dX12_judgeQuery_25 : decode cX12_judgeQuery 25 = .ok (.aload_n 0, 1) := by decide +kernel
theorem dX12_judgeQuery_26 : decode cX12_judgeQuery 26 = .ok (.getfield 292, 3) := by decide +kernel
theorem dX12_judgeQuery_29 : decode cX12_judgeQuery 29 = .ok (.ifCond .eq 198, 3) := by decide +kernel
theorem dX12_judgeQuery_32 : decode cX12_judgeQuery 32 = .ok (.aload_n 0, 1) := by decide +kernel
theorem dX12_judgeQuery_33 : decode cX12_judgeQuery 33 = .ok (.getfield 160, 3) := by decide +kernel
theorem dX12_judgeQuery_36 : decode cX12_judgeQuery 36 = .ok (.iconst 5, 1) := by decide +kernel
theorem dX12_judgeQuery_37 : decode cX12_judgeQuery 37 = .ok (.iload_n 1, 1) := by decide +kernel
theorem dX12_judgeQuery_38 : decode cX12_judgeQuery 38 = .ok (.imul, 1) := by decide +kernel
theorem dX12_judgeQuery_39 : decode cX12_judgeQuery 39 = .ok (.iload 4, 2) := by decide +kernel
theorem dX12_judgeQuery_41 : decode cX12_judgeQuery 41 = .ok (.iadd, 1) := by decide +kernel
theorem dX12_judgeQuery_42 : decode cX12_judgeQuery 42 = .ok (.iaload, 1) := by decide +kernel
theorem dX12_judgeQuery_43 : decode cX12_judgeQuery 43 = .ok (.istore 5, 2) := by decide +kernel
theorem dX12_judgeQuery_45 : decode cX12_judgeQuery 45 = .ok (.aload_n 0, 1) := by decide +kernel
theorem dX12_judgeQuery_46 : decode cX12_judgeQuery 46 = .ok (.iload 5, 2) := by decide +kernel
theorem dX12_judgeQuery_48 : decode cX12_judgeQuery 48 = .ok (.invokevirtual 555, 3) := by decide +kernel
theorem dX12_judgeQuery_51 : decode cX12_judgeQuery 51 = .ok (.iload_n 3, 1) := by decide +kernel
theorem dX12_judgeQuery_52 : decode cX12_judgeQuery 52 = .ok (.ifCond .eq 23, 3) := by decide +kernel
theorem dX12_judgeQuery_55 : decode cX12_judgeQuery 55 = .ok (.aload_n 0, 1) := by decide +kernel
theorem dX12_judgeQuery_56 : decode cX12_judgeQuery 56 = .ok (.iload 5, 2) := by decide +kernel
theorem dX12_judgeQuery_58 : decode cX12_judgeQuery 58 = .ok (.aload_n 0, 1) := by decide +kernel
theorem dX12_judgeQuery_59 : decode cX12_judgeQuery 59 = .ok (.getfield 91, 3) := by decide +kernel
theorem dX12_judgeQuery_62 : decode cX12_judgeQuery 62 = .ok (.iload 5, 2) := by decide +kernel
theorem dX12_judgeQuery_64 : decode cX12_judgeQuery 64 = .ok (.iaload, 1) := by decide +kernel
theorem dX12_judgeQuery_65 : decode cX12_judgeQuery 65 = .ok (.invokevirtual 549, 3) := by decide +kernel
theorem dX12_judgeQuery_68 : decode cX12_judgeQuery 68 = .ok (.ifCond .eq 7, 3) := by decide +kernel
theorem dX12_judgeQuery_71 : decode cX12_judgeQuery 71 = .ok (.iconst 1, 1) := by decide +kernel
theorem dX12_judgeQuery_72 : decode cX12_judgeQuery 72 = .ok (.goto 4, 3) := by decide +kernel
theorem dX12_judgeQuery_75 : decode cX12_judgeQuery 75 = .ok (.iconst 0, 1) := by decide +kernel
theorem dX12_judgeQuery_76 : decode cX12_judgeQuery 76 = .ok (.istore_n 3, 1) := by decide +kernel
theorem dX12_judgeQuery_77 : decode cX12_judgeQuery 77 = .ok (.iload 4, 2) := by decide +kernel
theorem dX12_judgeQuery_79 : decode cX12_judgeQuery 79 = .ok (.ifCond .le 142, 3) := by decide +kernel
theorem dX12_judgeQuery_82 : decode cX12_judgeQuery 82 = .ok (.aload_n 0, 1) := by decide +kernel
theorem dX12_judgeQuery_83 : decode cX12_judgeQuery 83 = .ok (.getfield 292, 3) := by decide +kernel
theorem dX12_judgeQuery_86 : decode cX12_judgeQuery 86 = .ok (.ifCond .eq 135, 3) := by decide +kernel
theorem dX12_judgeQuery_89 : decode cX12_judgeQuery 89 = .ok (.aload_n 0, 1) := by decide +kernel
theorem dX12_judgeQuery_90 : decode cX12_judgeQuery 90 = .ok (.getfield 166, 3) := by decide +kernel
theorem dX12_judgeQuery_93 : decode cX12_judgeQuery 93 = .ok (.iconst 5, 1) := by decide +kernel
theorem dX12_judgeQuery_94 : decode cX12_judgeQuery 94 = .ok (.iload_n 1, 1) := by decide +kernel
theorem dX12_judgeQuery_95 : decode cX12_judgeQuery 95 = .ok (.imul, 1) := by decide +kernel
theorem dX12_judgeQuery_96 : decode cX12_judgeQuery 96 = .ok (.iload 4, 2) := by decide +kernel
theorem dX12_judgeQuery_98 : decode cX12_judgeQuery 98 = .ok (.iadd, 1) := by decide +kernel
theorem dX12_judgeQuery_99 : decode cX12_judgeQuery 99 = .ok (.iaload, 1) := by decide +kernel
theorem dX12_judgeQuery_100 : decode cX12_judgeQuery 100 = .ok (.istore 6, 2) := by decide +kernel
theorem dX12_judgeQuery_102 : decode cX12_judgeQuery 102 = .ok (.aload_n 0, 1) := by decide +kernel
theorem dX12_judgeQuery_103 : decode cX12_judgeQuery 103 = .ok (.getfield 163, 3) := by decide +kernel
theorem dX12_judgeQuery_106 : decode cX12_judgeQuery 106 = .ok (.iconst 5, 1) := by decide +kernel
theorem dX12_judgeQuery_107 : decode cX12_judgeQuery 107 = .ok (.iload_n 1, 1) := by decide +kernel
theorem dX12_judgeQuery_108 : decode cX12_judgeQuery 108 = .ok (.imul, 1) := by decide +kernel
theorem dX12_judgeQuery_109 : decode cX12_judgeQuery 109 = .ok (.iload 4, 2) := by decide +kernel
theorem dX12_judgeQuery_111 : decode cX12_judgeQuery 111 = .ok (.iadd, 1) := by decide +kernel
theorem dX12_judgeQuery_112 : decode cX12_judgeQuery 112 = .ok (.iaload, 1) := by decide +kernel
theorem dX12_judgeQuery_113 : decode cX12_judgeQuery 113 = .ok (.iconst 1, 1) := by decide +kernel
theorem dX12_judgeQuery_114 : decode cX12_judgeQuery 114 = .ok (.if_icmp .eq 10, 3) := by decide +kernel
theorem dX12_judgeQuery_117 : decode cX12_judgeQuery 117 = .ok (.aload_n 0, 1) := by decide +kernel
theorem dX12_judgeQuery_118 : decode cX12_judgeQuery 118 = .ok (.iload_n 3, 1) := by decide +kernel
theorem dX12_judgeQuery_119 : decode cX12_judgeQuery 119 = .ok (.iload 6, 2) := by decide +kernel
theorem dX12_judgeQuery_121 : decode cX12_judgeQuery 121 = .ok (.invokevirtual 558, 3) := by decide +kernel
theorem dX12_judgeQuery_124 : decode cX12_judgeQuery 124 = .ok (.aload_n 0, 1) := by decide +kernel
theorem dX12_judgeQuery_125 : decode cX12_judgeQuery 125 = .ok (.getfield 88, 3) := by decide +kernel
theorem dX12_judgeQuery_128 : decode cX12_judgeQuery 128 = .ok (.iload 5, 2) := by decide +kernel
theorem dX12_judgeQuery_130 : decode cX12_judgeQuery 130 = .ok (.iaload, 1) := by decide +kernel
theorem dX12_judgeQuery_131 : decode cX12_judgeQuery 131 = .ok (.aload_n 0, 1) := by decide +kernel
theorem dX12_judgeQuery_132 : decode cX12_judgeQuery 132 = .ok (.getfield 88, 3) := by decide +kernel
theorem dX12_judgeQuery_135 : decode cX12_judgeQuery 135 = .ok (.iload_n 2, 1) := by decide +kernel
theorem dX12_judgeQuery_136 : decode cX12_judgeQuery 136 = .ok (.iaload, 1) := by decide +kernel
theorem dX12_judgeQuery_137 : decode cX12_judgeQuery 137 = .ok (.if_icmp .ne 7, 3) := by decide +kernel
theorem dX12_judgeQuery_140 : decode cX12_judgeQuery 140 = .ok (.iconst 1, 1) := by decide +kernel
theorem dX12_judgeQuery_141 : decode cX12_judgeQuery 141 = .ok (.goto 4, 3) := by decide +kernel
theorem dX12_judgeQuery_144 : decode cX12_judgeQuery 144 = .ok (.iconst 0, 1) := by decide +kernel
theorem dX12_judgeQuery_145 : decode cX12_judgeQuery 145 = .ok (.istore 7, 2) := by decide +kernel
theorem dX12_judgeQuery_147 : decode cX12_judgeQuery 147 = .ok (.iconst 0, 1) := by decide +kernel
theorem dX12_judgeQuery_148 : decode cX12_judgeQuery 148 = .ok (.istore 8, 2) := by decide +kernel
theorem dX12_judgeQuery_150 : decode cX12_judgeQuery 150 = .ok (.iload 7, 2) := by decide +kernel
theorem dX12_judgeQuery_152 : decode cX12_judgeQuery 152 = .ok (.ifCond .eq 56, 3) := by decide +kernel
theorem dX12_judgeQuery_155 : decode cX12_judgeQuery 155 = .ok (.iload 8, 2) := by decide +kernel
theorem dX12_judgeQuery_157 : decode cX12_judgeQuery 157 = .ok (.aload_n 0, 1) := by decide +kernel
theorem dX12_judgeQuery_158 : decode cX12_judgeQuery 158 = .ok (.getfield 88, 3) := by decide +kernel
theorem dX12_judgeQuery_161 : decode cX12_judgeQuery 161 = .ok (.iload 5, 2) := by decide +kernel
theorem dX12_judgeQuery_163 : decode cX12_judgeQuery 163 = .ok (.iaload, 1) := by decide +kernel
theorem dX12_judgeQuery_164 : decode cX12_judgeQuery 164 = .ok (.if_icmp .ge 44, 3) := by decide +kernel
theorem dX12_judgeQuery_167 : decode cX12_judgeQuery 167 = .ok (.aload_n 0, 1) := by decide +kernel
theorem dX12_judgeQuery_168 : decode cX12_judgeQuery 168 = .ok (.getfield 118, 3) := by decide +kernel
theorem dX12_judgeQuery_171 : decode cX12_judgeQuery 171 = .ok (.bipush 8, 2) := by decide +kernel
theorem dX12_judgeQuery_173 : decode cX12_judgeQuery 173 = .ok (.iload 5, 2) := by decide +kernel
theorem dX12_judgeQuery_175 : decode cX12_judgeQuery 175 = .ok (.imul, 1) := by decide +kernel
theorem dX12_judgeQuery_176 : decode cX12_judgeQuery 176 = .ok (.iload 8, 2) := by decide +kernel
theorem dX12_judgeQuery_178 : decode cX12_judgeQuery 178 = .ok (.iadd, 1) := by decide +kernel
theorem dX12_judgeQuery_179 : decode cX12_judgeQuery 179 = .ok (.iaload, 1) := by decide +kernel
theorem dX12_judgeQuery_180 : decode cX12_judgeQuery 180 = .ok (.aload_n 0, 1) := by decide +kernel
theorem dX12_judgeQuery_181 : decode cX12_judgeQuery 181 = .ok (.getfield 118, 3) := by decide +kernel
theorem dX12_judgeQuery_184 : decode cX12_judgeQuery 184 = .ok (.bipush 8, 2) := by decide +kernel
theorem dX12_judgeQuery_186 : decode cX12_judgeQuery 186 = .ok (.iload_n 2, 1) := by decide +kernel
theorem dX12_judgeQuery_187 : decode cX12_judgeQuery 187 = .ok (.imul, 1) := by decide +kernel
theorem dX12_judgeQuery_188 : decode cX12_judgeQuery 188 = .ok (.iload 8, 2) := by decide +kernel
theorem dX12_judgeQuery_190 : decode cX12_judgeQuery 190 = .ok (.iadd, 1) := by decide +kernel
theorem dX12_judgeQuery_191 : decode cX12_judgeQuery 191 = .ok (.iaload, 1) := by decide +kernel
theorem dX12_judgeQuery_192 : decode cX12_judgeQuery 192 = .ok (.if_icmp .ne 7, 3) := by decide +kernel
theorem dX12_judgeQuery_195 : decode cX12_judgeQuery 195 = .ok (.iconst 1, 1) := by decide +kernel
theorem dX12_judgeQuery_196 : decode cX12_judgeQuery 196 = .ok (.goto 4, 3) := by decide +kernel
theorem dX12_judgeQuery_199 : decode cX12_judgeQuery 199 = .ok (.iconst 0, 1) := by decide +kernel
theorem dX12_judgeQuery_200 : decode cX12_judgeQuery 200 = .ok (.istore 7, 2) := by decide +kernel
theorem dX12_judgeQuery_202 : decode cX12_judgeQuery 202 = .ok (.iinc 8 1, 3) := by decide +kernel
theorem dX12_judgeQuery_205 : decode cX12_judgeQuery 205 = .ok (.goto (-55), 3) := by decide +kernel
theorem dX12_judgeQuery_208 : decode cX12_judgeQuery 208 = .ok (.iload 7, 2) := by decide +kernel
theorem dX12_judgeQuery_210 : decode cX12_judgeQuery 210 = .ok (.ifCond .ne 11, 3) := by decide +kernel
theorem dX12_judgeQuery_213 : decode cX12_judgeQuery 213 = .ok (.aload_n 0, 1) := by decide +kernel
theorem dX12_judgeQuery_214 : decode cX12_judgeQuery 214 = .ok (.bipush 6, 2) := by decide +kernel
theorem dX12_judgeQuery_216 : decode cX12_judgeQuery 216 = .ok (.iload 6, 2) := by decide +kernel
theorem dX12_judgeQuery_218 : decode cX12_judgeQuery 218 = .ok (.invokevirtual 305, 3) := by decide +kernel
theorem dX12_judgeQuery_221 : decode cX12_judgeQuery 221 = .ok (.iinc 4 1, 3) := by decide +kernel
theorem dX12_judgeQuery_224 : decode cX12_judgeQuery 224 = .ok (.goto (-210), 3) := by decide +kernel
theorem dX12_judgeQuery_227 : decode cX12_judgeQuery 227 = .ok (.aload_n 0, 1) := by decide +kernel
theorem dX12_judgeQuery_228 : decode cX12_judgeQuery 228 = .ok (.getfield 292, 3) := by decide +kernel
theorem dX12_judgeQuery_231 : decode cX12_judgeQuery 231 = .ok (.ifCond .eq 77, 3) := by decide +kernel
theorem dX12_judgeQuery_234 : decode cX12_judgeQuery 234 = .ok (.aload_n 0, 1) := by decide +kernel
theorem dX12_judgeQuery_235 : decode cX12_judgeQuery 235 = .ok (.getfield 172, 3) := by decide +kernel
theorem dX12_judgeQuery_238 : decode cX12_judgeQuery 238 = .ok (.iload_n 1, 1) := by decide +kernel
theorem dX12_judgeQuery_239 : decode cX12_judgeQuery 239 = .ok (.iaload, 1) := by decide +kernel
theorem dX12_judgeQuery_240 : decode cX12_judgeQuery 240 = .ok (.iconst (-1), 1) := by decide +kernel
theorem dX12_judgeQuery_241 : decode cX12_judgeQuery 241 = .ok (.if_icmp .eq 67, 3) := by decide +kernel
theorem dX12_judgeQuery_244 : decode cX12_judgeQuery 244 = .ok (.aload_n 0, 1) := by decide +kernel
theorem dX12_judgeQuery_245 : decode cX12_judgeQuery 245 = .ok (.iload_n 3, 1) := by decide +kernel
theorem dX12_judgeQuery_246 : decode cX12_judgeQuery 246 = .ok (.aload_n 0, 1) := by decide +kernel
theorem dX12_judgeQuery_247 : decode cX12_judgeQuery 247 = .ok (.getfield 172, 3) := by decide +kernel
theorem dX12_judgeQuery_250 : decode cX12_judgeQuery 250 = .ok (.iload_n 1, 1) := by decide +kernel
theorem dX12_judgeQuery_251 : decode cX12_judgeQuery 251 = .ok (.iaload, 1) := by decide +kernel
theorem dX12_judgeQuery_252 : decode cX12_judgeQuery 252 = .ok (.invokevirtual 558, 3) := by decide +kernel
theorem dX12_judgeQuery_255 : decode cX12_judgeQuery 255 = .ok (.iconst 0, 1) := by decide +kernel
theorem dX12_judgeQuery_256 : decode cX12_judgeQuery 256 = .ok (.istore 4, 2) := by decide +kernel
theorem dX12_judgeQuery_258 : decode cX12_judgeQuery 258 = .ok (.iload 4, 2) := by decide +kernel
theorem dX12_judgeQuery_260 : decode cX12_judgeQuery 260 = .ok (.aload_n 0, 1) := by decide +kernel
theorem dX12_judgeQuery_261 : decode cX12_judgeQuery 261 = .ok (.getfield 169, 3) := by decide +kernel
theorem dX12_judgeQuery_264 : decode cX12_judgeQuery 264 = .ok (.iload_n 1, 1) := by decide +kernel
theorem dX12_judgeQuery_265 : decode cX12_judgeQuery 265 = .ok (.iaload, 1) := by decide +kernel
theorem dX12_judgeQuery_266 : decode cX12_judgeQuery 266 = .ok (.if_icmp .ge 42, 3) := by decide +kernel
theorem dX12_judgeQuery_269 : decode cX12_judgeQuery 269 = .ok (.aload_n 0, 1) := by decide +kernel
theorem dX12_judgeQuery_270 : decode cX12_judgeQuery 270 = .ok (.getfield 292, 3) := by decide +kernel
theorem dX12_judgeQuery_273 : decode cX12_judgeQuery 273 = .ok (.ifCond .eq 35, 3) := by decide +kernel
theorem dX12_judgeQuery_276 : decode cX12_judgeQuery 276 = .ok (.aload_n 0, 1) := by decide +kernel
theorem dX12_judgeQuery_277 : decode cX12_judgeQuery 277 = .ok (.iconst 2, 1) := by decide +kernel
theorem dX12_judgeQuery_278 : decode cX12_judgeQuery 278 = .ok (.putfield 512, 3) := by decide +kernel
theorem dX12_judgeQuery_281 : decode cX12_judgeQuery 281 = .ok (.aload_n 0, 1) := by decide +kernel
theorem dX12_judgeQuery_282 : decode cX12_judgeQuery 282 = .ok (.iload_n 2, 1) := by decide +kernel
theorem dX12_judgeQuery_283 : decode cX12_judgeQuery 283 = .ok (.putfield 518, 3) := by decide +kernel
theorem dX12_judgeQuery_286 : decode cX12_judgeQuery 286 = .ok (.aload_n 0, 1) := by decide +kernel
theorem dX12_judgeQuery_287 : decode cX12_judgeQuery 287 = .ok (.aload_n 0, 1) := by decide +kernel
theorem dX12_judgeQuery_288 : decode cX12_judgeQuery 288 = .ok (.getfield 175, 3) := by decide +kernel
theorem dX12_judgeQuery_291 : decode cX12_judgeQuery 291 = .ok (.bipush 8, 2) := by decide +kernel
theorem dX12_judgeQuery_293 : decode cX12_judgeQuery 293 = .ok (.iload_n 1, 1) := by decide +kernel
theorem dX12_judgeQuery_294 : decode cX12_judgeQuery 294 = .ok (.imul, 1) := by decide +kernel
theorem dX12_judgeQuery_295 : decode cX12_judgeQuery 295 = .ok (.iload 4, 2) := by decide +kernel
theorem dX12_judgeQuery_297 : decode cX12_judgeQuery 297 = .ok (.iadd, 1) := by decide +kernel
theorem dX12_judgeQuery_298 : decode cX12_judgeQuery 298 = .ok (.iaload, 1) := by decide +kernel
theorem dX12_judgeQuery_299 : decode cX12_judgeQuery 299 = .ok (.invokevirtual 537, 3) := by decide +kernel
theorem dX12_judgeQuery_302 : decode cX12_judgeQuery 302 = .ok (.iinc 4 1, 3) := by decide +kernel
theorem dX12_judgeQuery_305 : decode cX12_judgeQuery 305 = .ok (.goto (-47), 3) := by decide +kernel
theorem dX12_judgeQuery_308 : decode cX12_judgeQuery 308 = .ok (.return_, 1) := by decide +kernel
def m_judgeQuery_b308 (F : Nat) (T : TG_judgeQuery) (cs1 : RS) : Option RS := some cs1
def m_judgeQuery_L258 (F : Nat) (T : TG_judgeQuery) : Nat → RS → Int32 → Int32 → Int32 → Option RS
  | 0, _, _, _, _ => none
  | lf_258 + 1, cs1, u1, u2, u4 => Option.bind (rdI (cs1.2.2.1 64) 60 u1) fun v_1 => if v_1 ≤ u4 then (m_judgeQuery_b308 F T cs1) else (if (cs1.1 21) = 0 then (m_judgeQuery_b308 F T cs1) else (Option.bind (rdI ((setF (setF cs1 76 2) 77 u2).2.2.1 66) 480 ((8 * u1) + u4)) fun v_4 => Option.bind (m_judge F 300 (setF (setF cs1 76 2) 77 u2) v_4) fun cs_5 => (m_judgeQuery_L258 F T lf_258) cs_5 u1 u2 (u4 + 1)))
def m_judgeQuery_b227 (F : Nat) (T : TG_judgeQuery) (cs1 : RS) (u1 : Int32) (u2 : Int32) (u3 : Int32) : Option RS := if (cs1.1 21) = 0 then (m_judgeQuery_b308 F T cs1) else (Option.bind (rdI (cs1.2.2.1 65) 60 u1) fun v_7 => if v_7 = (-1) then (m_judgeQuery_b308 F T cs1) else (Option.bind (rdI (cs1.2.2.1 65) 60 u1) fun v_9 => Option.bind (m_bounded F cs1 u3 v_9) fun cs_10 => m_judgeQuery_L258 F T F cs_10 u1 u2 0))
def m_judgeQuery_b221 (F : Nat) (T : TG_judgeQuery) (rc14 : RS → Int32 → Int32 → Int32 → Int32 → Option RS) (cs1 : RS) (u1 : Int32) (u2 : Int32) (u3 : Int32) (u4 : Int32) : Option RS := rc14 cs1 u1 u2 u3 (u4 + 1)
def m_judgeQuery_b208 (F : Nat) (T : TG_judgeQuery) (rc14 : RS → Int32 → Int32 → Int32 → Int32 → Option RS) (cs1 : RS) (u1 : Int32) (u2 : Int32) (u3 : Int32) (u4 : Int32) (u6 : Int32) (u7 : Int32) : Option RS := if u7 = 0 then (Option.bind (m_tell F cs1 6 u6) fun cs_12 => m_judgeQuery_b221 F T rc14 cs_12 u1 u2 u3 u4) else (m_judgeQuery_b221 F T rc14 cs1 u1 u2 u3 u4)
def m_judgeQuery_b200 (F : Nat) (T : TG_judgeQuery) (rc14 : RS → Int32 → Int32 → Int32 → Int32 → Option RS) (rc150 : RS → Int32 → Int32 → Int32 → Int32 → Int32 → Int32 → Int32 → Int32 → Option RS) (cs1 : RS) (u1 : Int32) (u2 : Int32) (u3 : Int32) (u4 : Int32) (u5 : Int32) (u6 : Int32) (u8 : Int32) (y0 : Int32) : Option RS := rc150 cs1 u1 u2 u3 u4 u5 u6 y0 (u8 + 1)
def m_judgeQuery_L150 (F : Nat) (T : TG_judgeQuery) (rc14 : RS → Int32 → Int32 → Int32 → Int32 → Option RS) : Nat → RS → Int32 → Int32 → Int32 → Int32 → Int32 → Int32 → Int32 → Int32 → Option RS
  | 0, _, _, _, _, _, _, _, _, _ => none
  | lf_150 + 1, cs1, u1, u2, u3, u4, u5, u6, u7, u8 => if u7 = 0 then (m_judgeQuery_b208 F T rc14 cs1 u1 u2 u3 u4 u6 u7) else (Option.bind (rdI (cs1.2.2.1 36) 60 u5) fun v_14 => if v_14 ≤ u8 then (m_judgeQuery_b208 F T rc14 cs1 u1 u2 u3 u4 u6 u7) else (Option.bind (rdI (cs1.2.2.1 46) 480 ((8 * u5) + u8)) fun v_16 => Option.bind (rdI (cs1.2.2.1 46) 480 ((8 * u2) + u8)) fun v_17 => if v_16 = v_17 then (m_judgeQuery_b200 F T rc14 (m_judgeQuery_L150 F T rc14 lf_150) cs1 u1 u2 u3 u4 u5 u6 u8 1) else (m_judgeQuery_b200 F T rc14 (m_judgeQuery_L150 F T rc14 lf_150) cs1 u1 u2 u3 u4 u5 u6 u8 0)))
def m_judgeQuery_b145 (F : Nat) (T : TG_judgeQuery) (rc14 : RS → Int32 → Int32 → Int32 → Int32 → Option RS) (cs1 : RS) (u1 : Int32) (u2 : Int32) (u3 : Int32) (u4 : Int32) (u5 : Int32) (u6 : Int32) (y0 : Int32) : Option RS := m_judgeQuery_L150 F T rc14 F cs1 u1 u2 u3 u4 u5 u6 y0 0
def m_judgeQuery_b124 (F : Nat) (T : TG_judgeQuery) (rc14 : RS → Int32 → Int32 → Int32 → Int32 → Option RS) (cs1 : RS) (u1 : Int32) (u2 : Int32) (u3 : Int32) (u4 : Int32) (u5 : Int32) (u6 : Int32) : Option RS := Option.bind (rdI (cs1.2.2.1 36) 60 u5) fun v_19 => Option.bind (rdI (cs1.2.2.1 36) 60 u2) fun v_20 => if v_19 = v_20 then (m_judgeQuery_b145 F T rc14 cs1 u1 u2 u3 u4 u5 u6 1) else (m_judgeQuery_b145 F T rc14 cs1 u1 u2 u3 u4 u5 u6 0)
def m_judgeQuery_b76 (F : Nat) (T : TG_judgeQuery) (rc14 : RS → Int32 → Int32 → Int32 → Int32 → Option RS) (cs1 : RS) (u1 : Int32) (u2 : Int32) (u4 : Int32) (u5 : Int32) (y0 : Int32) : Option RS := if u4 ≤ 0 then (m_judgeQuery_b221 F T rc14 cs1 u1 u2 y0 u4) else (if (cs1.1 21) = 0 then (m_judgeQuery_b221 F T rc14 cs1 u1 u2 y0 u4) else (Option.bind (rdI (cs1.2.2.1 63) 300 ((5 * u1) + u4)) fun v_24 => Option.bind (rdI (cs1.2.2.1 62) 300 ((5 * u1) + u4)) fun v_25 => if v_25 = 1 then (m_judgeQuery_b124 F T rc14 cs1 u1 u2 y0 u4 u5 v_24) else (Option.bind (m_bounded F cs1 y0 v_24) fun cs_27 => m_judgeQuery_b124 F T rc14 cs_27 u1 u2 y0 u4 u5 v_24)))
def m_judgeQuery_b75 (F : Nat) (T : TG_judgeQuery) (rc14 : RS → Int32 → Int32 → Int32 → Int32 → Option RS) (cs1 : RS) (u1 : Int32) (u2 : Int32) (u4 : Int32) (u5 : Int32) : Option RS := m_judgeQuery_b76 F T rc14 cs1 u1 u2 u4 u5 0
def m_judgeQuery_L14 (F : Nat) (T : TG_judgeQuery) : Nat → RS → Int32 → Int32 → Int32 → Int32 → Option RS
  | 0, _, _, _, _, _ => none
  | lf_14 + 1, cs1, u1, u2, u3, u4 => Option.bind (rdI (cs1.2.2.1 60) 60 u1) fun v_28 => if v_28 ≤ u4 then (m_judgeQuery_b227 F T cs1 u1 u2 u3) else (if (cs1.1 21) = 0 then (m_judgeQuery_b227 F T cs1 u1 u2 u3) else (Option.bind (rdI (cs1.2.2.1 61) 300 ((5 * u1) + u4)) fun v_31 => Option.bind (T.2 cs1 v_31) fun cs_32 => if u3 = 0 then (m_judgeQuery_b75 F T (m_judgeQuery_L14 F T lf_14) cs_32 u1 u2 u4 v_31) else (Option.bind (rdI (cs_32.2.2.1 37) 60 v_31) fun v_34 => Option.bind (m_isKeptSelect F 300 cs_32 v_31 v_34) fun v_35 => if v_35 = 0 then (m_judgeQuery_b75 F T (m_judgeQuery_L14 F T lf_14) cs_32 u1 u2 u4 v_31) else (m_judgeQuery_b76 F T (m_judgeQuery_L14 F T lf_14) cs_32 u1 u2 u4 v_31 1))))
def b_judgeQuery (F : Nat) (T : TG_judgeQuery) (cs : RS) (x1 : Int32) : Option RS := Option.bind (rdI (cs.2.2.1 61) 300 (5 * x1)) fun v_37 => m_judgeQuery_L14 F T F cs x1 v_37 1 0
theorem dX12_judgeSelect_0 : decode cX12_judgeSelect 0 = .ok (.iconst 0, 1) := by decide +kernel
theorem dX12_judgeSelect_1 : decode cX12_judgeSelect 1 = .ok (.istore_n 2, 1) := by decide +kernel
theorem dX12_judgeSelect_2 : decode cX12_judgeSelect 2 = .ok (.iconst 0, 1) := by decide +kernel
theorem dX12_judgeSelect_3 : decode cX12_judgeSelect 3 = .ok (.istore_n 3, 1) := by decide +kernel
theorem dX12_judgeSelect_4 : decode cX12_judgeSelect 4 = .ok (.iload_n 3, 1) := by decide +kernel
theorem dX12_judgeSelect_5 : decode cX12_judgeSelect 5 = .ok (.aload_n 0, 1) := by decide +kernel
theorem dX12_judgeSelect_6 : decode cX12_judgeSelect 6 = .ok (.getfield 91, 3) := by decide +kernel
theorem dX12_judgeSelect_9 : decode cX12_judgeSelect 9 = .ok (.iload_n 1, 1) := by decide +kernel
theorem dX12_judgeSelect_10 : decode cX12_judgeSelect 10 = .ok (.iaload, 1) := by decide +kernel
theorem dX12_judgeSelect_11 : decode cX12_judgeSelect 11 = .ok (.if_icmp .ge 260, 3) := by decide +kernel
theorem dX12_judgeSelect_14 : decode cX12_judgeSelect 14 = .ok (.aload_n 0, 1) := by decide +kernel
theorem dX12_judgeSelect_15 : decode cX12_judgeSelect 15 = .ok (.getfield 292, 3) := by decide +kernel
theorem dX12_judgeSelect_18 : decode cX12_judgeSelect 18 = .ok (.ifCond .eq 253, 3) := by decide +kernel
theorem dX12_judgeSelect_21 : decode cX12_judgeSelect 21 = .ok (.iconst 3, 1) := by decide +kernel
theorem dX12_judgeSelect_22 : decode cX12_judgeSelect 22 = .ok (.iload_n 1, 1) := by decide +kernel
theorem dX12_judgeSelect_23 : decode cX12_judgeSelect 23 = .ok (.imul, 1) := by decide +kernel
theorem dX12_judgeSelect_24 : decode cX12_judgeSelect 24 = .ok (.iload_n 3, 1) := by decide +kernel
theorem dX12_judgeSelect_25 : decode cX12_judgeSelect 25 = .ok (.iadd, 1) := by decide +kernel
theorem dX12_judgeSelect_26 : decode cX12_judgeSelect 26 = .ok (.istore 4, 2) := by decide +kernel
theorem dX12_judgeSelect_28 : decode cX12_judgeSelect 28 = .ok (.aload_n 0, 1) := by decide +kernel
theorem dX12_judgeSelect_29 : decode cX12_judgeSelect 29 = .ok (.getfield 127, 3) := by decide +kernel
theorem dX12_judgeSelect_32 : decode cX12_judgeSelect 32 = .ok (.iload 4, 2) := by decide +kernel
theorem dX12_judgeSelect_34 : decode cX12_judgeSelect 34 = .ok (.iaload, 1) := by decide +kernel
theorem dX12_judgeSelect_35 : decode cX12_judgeSelect 35 = .ok (.iconst (-1), 1) := by decide +kernel
theorem dX12_judgeSelect_36 : decode cX12_judgeSelect 36 = .ok (.if_icmp .eq 32, 3) := by decide +kernel
theorem dX12_judgeSelect_39 : decode cX12_judgeSelect 39 = .ok (.aload_n 0, 1) := by decide +kernel
theorem dX12_judgeSelect_40 : decode cX12_judgeSelect 40 = .ok (.getfield 127, 3) := by decide +kernel
theorem dX12_judgeSelect_43 : decode cX12_judgeSelect 43 = .ok (.iload 4, 2) := by decide +kernel
theorem dX12_judgeSelect_45 : decode cX12_judgeSelect 45 = .ok (.iaload, 1) := by decide +kernel
theorem dX12_judgeSelect_46 : decode cX12_judgeSelect 46 = .ok (.aload_n 0, 1) := by decide +kernel
theorem dX12_judgeSelect_47 : decode cX12_judgeSelect 47 = .ok (.getfield 261, 3) := by decide +kernel
theorem dX12_judgeSelect_50 : decode cX12_judgeSelect 50 = .ok (.if_icmp .lt 69, 3) := by decide +kernel
theorem dX12_judgeSelect_53 : decode cX12_judgeSelect 53 = .ok (.aload_n 0, 1) := by decide +kernel
theorem dX12_judgeSelect_54 : decode cX12_judgeSelect 54 = .ok (.iconst 2, 1) := by decide +kernel
theorem dX12_judgeSelect_55 : decode cX12_judgeSelect 55 = .ok (.aload_n 0, 1) := by decide +kernel
theorem dX12_judgeSelect_56 : decode cX12_judgeSelect 56 = .ok (.getfield 130, 3) := by decide +kernel
theorem dX12_judgeSelect_59 : decode cX12_judgeSelect 59 = .ok (.iload 4, 2) := by decide +kernel
theorem dX12_judgeSelect_61 : decode cX12_judgeSelect 61 = .ok (.iaload, 1) := by decide +kernel
theorem dX12_judgeSelect_62 : decode cX12_judgeSelect 62 = .ok (.invokevirtual 305, 3) := by decide +kernel
theorem dX12_judgeSelect_65 : decode cX12_judgeSelect 65 = .ok (.goto 54, 3) := by decide +kernel
theorem dX12_judgeSelect_68 : decode cX12_judgeSelect 68 = .ok (.aload_n 0, 1) := by decide +kernel
theorem dX12_judgeSelect_69 : decode cX12_judgeSelect 69 = .ok (.aload_n 0, 1) := by decide +kernel
theorem dX12_judgeSelect_70 : decode cX12_judgeSelect 70 = .ok (.getfield 139, 3) := by decide +kernel
theorem dX12_judgeSelect_73 : decode cX12_judgeSelect 73 = .ok (.iload 4, 2) := by decide +kernel
theorem dX12_judgeSelect_75 : decode cX12_judgeSelect 75 = .ok (.iaload, 1) := by decide +kernel
theorem dX12_judgeSelect_76 : decode cX12_judgeSelect 76 = .ok (.invokevirtual 562, 3) := by decide +kernel
theorem dX12_judgeSelect_79 : decode cX12_judgeSelect 79 = .ok (.aload_n 0, 1) := by decide +kernel
theorem dX12_judgeSelect_80 : decode cX12_judgeSelect 80 = .ok (.getfield 292, 3) := by decide +kernel
theorem dX12_judgeSelect_83 : decode cX12_judgeSelect 83 = .ok (.ifCond .eq 36, 3) := by decide +kernel
theorem dX12_judgeSelect_86 : decode cX12_judgeSelect 86 = .ok (.aload_n 0, 1) := by decide +kernel
theorem dX12_judgeSelect_87 : decode cX12_judgeSelect 87 = .ok (.aload_n 0, 1) := by decide +kernel
theorem dX12_judgeSelect_88 : decode cX12_judgeSelect 88 = .ok (.getfield 160, 3) := by decide +kernel
theorem dX12_judgeSelect_91 : decode cX12_judgeSelect 91 = .ok (.iconst 5, 1) := by decide +kernel
theorem dX12_judgeSelect_92 : decode cX12_judgeSelect 92 = .ok (.aload_n 0, 1) := by decide +kernel
theorem dX12_judgeSelect_93 : decode cX12_judgeSelect 93 = .ok (.getfield 139, 3) := by decide +kernel
theorem dX12_judgeSelect_96 : decode cX12_judgeSelect 96 = .ok (.iload 4, 2) := by decide +kernel
theorem dX12_judgeSelect_98 : decode cX12_judgeSelect 98 = .ok (.iaload, 1) := by decide +kernel
theorem dX12_judgeSelect_99 : decode cX12_judgeSelect 99 = .ok (.imul, 1) := by decide +kernel
theorem dX12_judgeSelect_100 : decode cX12_judgeSelect 100 = .ok (.iaload, 1) := by decide +kernel
theorem dX12_judgeSelect_101 : decode cX12_judgeSelect 101 = .ok (.invokevirtual 565, 3) := by decide +kernel
theorem dX12_judgeSelect_104 : decode cX12_judgeSelect 104 = .ok (.ifCond .ne 15, 3) := by decide +kernel
theorem dX12_judgeSelect_107 : decode cX12_judgeSelect 107 = .ok (.aload_n 0, 1) := by decide +kernel
theorem dX12_judgeSelect_108 : decode cX12_judgeSelect 108 = .ok (.iconst 2, 1) := by decide +kernel
theorem dX12_judgeSelect_109 : decode cX12_judgeSelect 109 = .ok (.aload_n 0, 1) := by decide +kernel
theorem dX12_judgeSelect_110 : decode cX12_judgeSelect 110 = .ok (.getfield 142, 3) := by decide +kernel
theorem dX12_judgeSelect_113 : decode cX12_judgeSelect 113 = .ok (.iload 4, 2) := by decide +kernel
theorem dX12_judgeSelect_115 : decode cX12_judgeSelect 115 = .ok (.iaload, 1) := by decide +kernel
theorem dX12_judgeSelect_116 : decode cX12_judgeSelect 116 = .ok (.invokevirtual 305, 3) := by decide +kernel
theorem dX12_judgeSelect_119 : decode cX12_judgeSelect 119 = .ok (.iconst 0, 1) := by decide +kernel
theorem dX12_judgeSelect_120 : decode cX12_judgeSelect 120 = .ok (.istore 5, 2) := by decide +kernel
theorem dX12_judgeSelect_122 : decode cX12_judgeSelect 122 = .ok (.iload 5, 2) := by decide +kernel
theorem dX12_judgeSelect_124 : decode cX12_judgeSelect 124 = .ok (.iload_n 3, 1) := by decide +kernel
theorem dX12_judgeSelect_125 : decode cX12_judgeSelect 125 = .ok (.if_icmp .ge 51, 3) := by decide +kernel
theorem dX12_judgeSelect_128 : decode cX12_judgeSelect 128 = .ok (.aload_n 0, 1) := by decide +kernel
theorem dX12_judgeSelect_129 : decode cX12_judgeSelect 129 = .ok (.aload_n 0, 1) := by decide +kernel
theorem dX12_judgeSelect_130 : decode cX12_judgeSelect 130 = .ok (.getfield 145, 3) := by decide +kernel
theorem dX12_judgeSelect_133 : decode cX12_judgeSelect 133 = .ok (.iload 4, 2) := by decide +kernel
theorem dX12_judgeSelect_135 : decode cX12_judgeSelect 135 = .ok (.iaload, 1) := by decide +kernel
theorem dX12_judgeSelect_136 : decode cX12_judgeSelect 136 = .ok (.aload_n 0, 1) := by decide +kernel
theorem dX12_judgeSelect_137 : decode cX12_judgeSelect 137 = .ok (.getfield 145, 3) := by decide +kernel
theorem dX12_judgeSelect_140 : decode cX12_judgeSelect 140 = .ok (.iconst 3, 1) := by decide +kernel
theorem dX12_judgeSelect_141 : decode cX12_judgeSelect 141 = .ok (.iload_n 1, 1) := by decide +kernel
theorem dX12_judgeSelect_142 : decode cX12_judgeSelect 142 = .ok (.imul, 1) := by decide +kernel
theorem dX12_judgeSelect_143 : decode cX12_judgeSelect 143 = .ok (.iload 5, 2) := by decide +kernel
theorem dX12_judgeSelect_145 : decode cX12_judgeSelect 145 = .ok (.iadd, 1) := by decide +kernel
theorem dX12_judgeSelect_146 : decode cX12_judgeSelect 146 = .ok (.iaload, 1) := by decide +kernel
theorem dX12_judgeSelect_147 : decode cX12_judgeSelect 147 = .ok (.invokevirtual 508, 3) := by decide +kernel
theorem dX12_judgeSelect_150 : decode cX12_judgeSelect 150 = .ok (.ifCond .eq 20, 3) := by decide +kernel
theorem dX12_judgeSelect_153 : decode cX12_judgeSelect 153 = .ok (.aload_n 0, 1) := by decide +kernel
theorem dX12_judgeSelect_154 : decode cX12_judgeSelect 154 = .ok (.iconst 2, 1) := by decide +kernel
theorem dX12_judgeSelect_155 : decode cX12_judgeSelect 155 = .ok (.aload_n 0, 1) := by decide +kernel
theorem dX12_judgeSelect_156 : decode cX12_judgeSelect 156 = .ok (.getfield 43, 3) := by decide +kernel
theorem dX12_judgeSelect_159 : decode cX12_judgeSelect 159 = .ok (.aload_n 0, 1) := by decide +kernel
theorem dX12_judgeSelect_160 : decode cX12_judgeSelect 160 = .ok (.getfield 145, 3) := by decide +kernel
theorem dX12_judgeSelect_163 : decode cX12_judgeSelect 163 = .ok (.iload 4, 2) := by decide +kernel
theorem dX12_judgeSelect_165 : decode cX12_judgeSelect 165 = .ok (.iaload, 1) := by decide +kernel
theorem dX12_judgeSelect_166 : decode cX12_judgeSelect 166 = .ok (.iaload, 1) := by decide +kernel
theorem dX12_judgeSelect_167 : decode cX12_judgeSelect 167 = .ok (.invokevirtual 305, 3) := by decide +kernel
theorem dX12_judgeSelect_170 : decode cX12_judgeSelect 170 = .ok (.iinc 5 1, 3) := by decide +kernel
theorem dX12_judgeSelect_173 : decode cX12_judgeSelect 173 = .ok (.goto (-51), 3) := by decide +kernel
theorem dX12_judgeSelect_176 : decode cX12_judgeSelect 176 = .ok (.aload_n 0, 1) := by decide +kernel
theorem dX12_judgeSelect_177 : decode cX12_judgeSelect 177 = .ok (.getfield 184, 3) := by decide +kernel
theorem dX12_judgeSelect_180 : decode cX12_judgeSelect 180 = .ok (.iload 4, 2) := by decide +kernel
theorem dX12_judgeSelect_182 : decode cX12_judgeSelect 182 = .ok (.iload_n 2, 1) := by decide +kernel
theorem dX12_judgeSelect_183 : decode cX12_judgeSelect 183 = .ok (.iastore, 1) := by decide +kernel
theorem dX12_judgeSelect_184 : decode cX12_judgeSelect 184 = .ok (.iload_n 2, 1) := by decide +kernel
theorem dX12_judgeSelect_185 : decode cX12_judgeSelect 185 = .ok (.aload_n 0, 1) := by decide +kernel
theorem dX12_judgeSelect_186 : decode cX12_judgeSelect 186 = .ok (.getfield 292, 3) := by decide +kernel
theorem dX12_judgeSelect_189 : decode cX12_judgeSelect 189 = .ok (.ifCond .eq 12, 3) := by decide +kernel
theorem dX12_judgeSelect_192 : decode cX12_judgeSelect 192 = .ok (.aload_n 0, 1) := by decide +kernel
theorem dX12_judgeSelect_193 : decode cX12_judgeSelect 193 = .ok (.iload 4, 2) := by decide +kernel
theorem dX12_judgeSelect_195 : decode cX12_judgeSelect 195 = .ok (.invokevirtual 521, 3) := by decide +kernel
theorem dX12_judgeSelect_198 : decode cX12_judgeSelect 198 = .ok (.goto 4, 3) := by decide +kernel
theorem dX12_judgeSelect_201 : decode cX12_judgeSelect 201 = .ok (.iconst 0, 1) := by decide +kernel
theorem dX12_judgeSelect_202 : decode cX12_judgeSelect 202 = .ok (.iadd, 1) := by decide +kernel
theorem dX12_judgeSelect_203 : decode cX12_judgeSelect 203 = .ok (.istore_n 2, 1) := by decide +kernel
theorem dX12_judgeSelect_204 : decode cX12_judgeSelect 204 = .ok (.iload_n 3, 1) := by decide +kernel
theorem dX12_judgeSelect_205 : decode cX12_judgeSelect 205 = .ok (.ifCond .le 60, 3) := by decide +kernel
theorem dX12_judgeSelect_208 : decode cX12_judgeSelect 208 = .ok (.aload_n 0, 1) := by decide +kernel
theorem dX12_judgeSelect_209 : decode cX12_judgeSelect 209 = .ok (.getfield 292, 3) := by decide +kernel
theorem dX12_judgeSelect_212 : decode cX12_judgeSelect 212 = .ok (.ifCond .eq 53, 3) := by decide +kernel
theorem dX12_judgeSelect_215 : decode cX12_judgeSelect 215 = .ok (.aload_n 0, 1) := by decide +kernel
theorem dX12_judgeSelect_216 : decode cX12_judgeSelect 216 = .ok (.aload_n 0, 1) := by decide +kernel
theorem dX12_judgeSelect_217 : decode cX12_judgeSelect 217 = .ok (.iload_n 1, 1) := by decide +kernel
theorem dX12_judgeSelect_218 : decode cX12_judgeSelect 218 = .ok (.iload_n 3, 1) := by decide +kernel
theorem dX12_judgeSelect_219 : decode cX12_judgeSelect 219 = .ok (.iconst 1, 1) := by decide +kernel
theorem dX12_judgeSelect_220 : decode cX12_judgeSelect 220 = .ok (.iadd, 1) := by decide +kernel
theorem dX12_judgeSelect_221 : decode cX12_judgeSelect 221 = .ok (.invokevirtual 549, 3) := by decide +kernel
theorem dX12_judgeSelect_224 : decode cX12_judgeSelect 224 = .ok (.aload_n 0, 1) := by decide +kernel
theorem dX12_judgeSelect_225 : decode cX12_judgeSelect 225 = .ok (.getfield 151, 3) := by decide +kernel
theorem dX12_judgeSelect_228 : decode cX12_judgeSelect 228 = .ok (.iload 4, 2) := by decide +kernel
theorem dX12_judgeSelect_230 : decode cX12_judgeSelect 230 = .ok (.iaload, 1) := by decide +kernel
theorem dX12_judgeSelect_231 : decode cX12_judgeSelect 231 = .ok (.invokevirtual 558, 3) := by decide +kernel
theorem dX12_judgeSelect_234 : decode cX12_judgeSelect 234 = .ok (.aload_n 0, 1) := by decide +kernel
theorem dX12_judgeSelect_235 : decode cX12_judgeSelect 235 = .ok (.iload_n 1, 1) := by decide +kernel
theorem dX12_judgeSelect_236 : decode cX12_judgeSelect 236 = .ok (.iload_n 3, 1) := by decide +kernel
theorem dX12_judgeSelect_237 : decode cX12_judgeSelect 237 = .ok (.iconst 1, 1) := by decide +kernel
theorem dX12_judgeSelect_238 : decode cX12_judgeSelect 238 = .ok (.iadd, 1) := by decide +kernel
theorem dX12_judgeSelect_239 : decode cX12_judgeSelect 239 = .ok (.invokevirtual 568, 3) := by decide +kernel
theorem dX12_judgeSelect_242 : decode cX12_judgeSelect 242 = .ok (.aload_n 0, 1) := by decide +kernel
theorem dX12_judgeSelect_243 : decode cX12_judgeSelect 243 = .ok (.aload_n 0, 1) := by decide +kernel
theorem dX12_judgeSelect_244 : decode cX12_judgeSelect 244 = .ok (.getfield 154, 3) := by decide +kernel
theorem dX12_judgeSelect_247 : decode cX12_judgeSelect 247 = .ok (.iload 4, 2) := by decide +kernel
theorem dX12_judgeSelect_249 : decode cX12_judgeSelect 249 = .ok (.iaload, 1) := by decide +kernel
theorem dX12_judgeSelect_250 : decode cX12_judgeSelect 250 = .ok (.invokevirtual 537, 3) := by decide +kernel
theorem dX12_judgeSelect_253 : decode cX12_judgeSelect 253 = .ok (.aload_n 0, 1) := by decide +kernel
theorem dX12_judgeSelect_254 : decode cX12_judgeSelect 254 = .ok (.aload_n 0, 1) := by decide +kernel
theorem dX12_judgeSelect_255 : decode cX12_judgeSelect 255 = .ok (.getfield 154, 3) := by decide +kernel
theorem dX12_judgeSelect_258 : decode cX12_judgeSelect 258 = .ok (.iload 4, 2) := by decide +kernel
theorem dX12_judgeSelect_260 : decode cX12_judgeSelect 260 = .ok (.iaload, 1) := by decide +kernel
theorem dX12_judgeSelect_261 : decode cX12_judgeSelect 261 = .ok (.iconst 2, 1) := by decide +kernel
theorem dX12_judgeSelect_262 : decode cX12_judgeSelect 262 = .ok (.invokevirtual 540, 3) := by decide +kernel
theorem dX12_judgeSelect_265 : decode cX12_judgeSelect 265 = .ok (.iinc 3 1, 3) := by decide +kernel
theorem dX12_judgeSelect_268 : decode cX12_judgeSelect 268 = .ok (.goto (-264), 3) := by decide +kernel
theorem dX12_judgeSelect_271 : decode cX12_judgeSelect 271 = .ok (.aload_n 0, 1) := by decide +kernel
theorem dX12_judgeSelect_272 : decode cX12_judgeSelect 272 = .ok (.iload_n 1, 1) := by decide +kernel
theorem dX12_judgeSelect_273 : decode cX12_judgeSelect 273 = .ok (.aload_n 0, 1) := by decide +kernel
theorem dX12_judgeSelect_274 : decode cX12_judgeSelect 274 = .ok (.getfield 91, 3) := by decide +kernel
theorem dX12_judgeSelect_277 : decode cX12_judgeSelect 277 = .ok (.iload_n 1, 1) := by decide +kernel
theorem dX12_judgeSelect_278 : decode cX12_judgeSelect 278 = .ok (.iaload, 1) := by decide +kernel
theorem dX12_judgeSelect_279 : decode cX12_judgeSelect 279 = .ok (.invokevirtual 568, 3) := by decide +kernel
theorem dX12_judgeSelect_282 : decode cX12_judgeSelect 282 = .ok (.aload_n 0, 1) := by decide +kernel
theorem dX12_judgeSelect_283 : decode cX12_judgeSelect 283 = .ok (.getfield 94, 3) := by decide +kernel
theorem dX12_judgeSelect_286 : decode cX12_judgeSelect 286 = .ok (.iload_n 1, 1) := by decide +kernel
theorem dX12_judgeSelect_287 : decode cX12_judgeSelect 287 = .ok (.iaload, 1) := by decide +kernel
theorem dX12_judgeSelect_288 : decode cX12_judgeSelect 288 = .ok (.iconst (-1), 1) := by decide +kernel
theorem dX12_judgeSelect_289 : decode cX12_judgeSelect 289 = .ok (.if_icmp .eq 31, 3) := by decide +kernel
theorem dX12_judgeSelect_292 : decode cX12_judgeSelect 292 = .ok (.aload_n 0, 1) := by decide +kernel
theorem dX12_judgeSelect_293 : decode cX12_judgeSelect 293 = .ok (.getfield 292, 3) := by decide +kernel
theorem dX12_judgeSelect_296 : decode cX12_judgeSelect 296 = .ok (.ifCond .eq 24, 3) := by decide +kernel
theorem dX12_judgeSelect_299 : decode cX12_judgeSelect 299 = .ok (.aload_n 0, 1) := by decide +kernel
theorem dX12_judgeSelect_300 : decode cX12_judgeSelect 300 = .ok (.aload_n 0, 1) := by decide +kernel
theorem dX12_judgeSelect_301 : decode cX12_judgeSelect 301 = .ok (.getfield 94, 3) := by decide +kernel
theorem dX12_judgeSelect_304 : decode cX12_judgeSelect 304 = .ok (.iload_n 1, 1) := by decide +kernel
theorem dX12_judgeSelect_305 : decode cX12_judgeSelect 305 = .ok (.iaload, 1) := by decide +kernel
theorem dX12_judgeSelect_306 : decode cX12_judgeSelect 306 = .ok (.invokevirtual 537, 3) := by decide +kernel
theorem dX12_judgeSelect_309 : decode cX12_judgeSelect 309 = .ok (.aload_n 0, 1) := by decide +kernel
theorem dX12_judgeSelect_310 : decode cX12_judgeSelect 310 = .ok (.aload_n 0, 1) := by decide +kernel
theorem dX12_judgeSelect_311 : decode cX12_judgeSelect 311 = .ok (.getfield 94, 3) := by decide +kernel
theorem dX12_judgeSelect_314 : decode cX12_judgeSelect 314 = .ok (.iload_n 1, 1) := by decide +kernel
theorem dX12_judgeSelect_315 : decode cX12_judgeSelect 315 = .ok (.iaload, 1) := by decide +kernel
theorem dX12_judgeSelect_316 : decode cX12_judgeSelect 316 = .ok (.iconst 2, 1) := by decide +kernel
theorem dX12_judgeSelect_317 : decode cX12_judgeSelect 317 = .ok (.invokevirtual 540, 3) := by decide +kernel
theorem dX12_judgeSelect_320 : decode cX12_judgeSelect 320 = .ok (.aload_n 0, 1) := by decide +kernel
theorem dX12_judgeSelect_321 : decode cX12_judgeSelect 321 = .ok (.getfield 292, 3) := by decide +kernel
theorem dX12_judgeSelect_324 : decode cX12_judgeSelect 324 = .ok (.ifCond .eq 21, 3) := by decide +kernel
theorem dX12_judgeSelect_327 : decode cX12_judgeSelect 327 = .ok (.aload_n 0, 1) := by decide +kernel
theorem dX12_judgeSelect_328 : decode cX12_judgeSelect 328 = .ok (.iload_n 1, 1) := by decide +kernel
theorem dX12_judgeSelect_329 : decode cX12_judgeSelect 329 = .ok (.aload_n 0, 1) := by decide +kernel
theorem dX12_judgeSelect_330 : decode cX12_judgeSelect 330 = .ok (.getfield 91, 3) := by decide +kernel
theorem dX12_judgeSelect_333 : decode cX12_judgeSelect 333 = .ok (.iload_n 1, 1) := by decide +kernel
theorem dX12_judgeSelect_334 : decode cX12_judgeSelect 334 = .ok (.iaload, 1) := by decide +kernel
theorem dX12_judgeSelect_335 : decode cX12_judgeSelect 335 = .ok (.invokevirtual 549, 3) := by decide +kernel
theorem dX12_judgeSelect_338 : decode cX12_judgeSelect 338 = .ok (.ifCond .eq 7, 3) := by decide +kernel
theorem dX12_judgeSelect_341 : decode cX12_judgeSelect 341 = .ok (.iconst 1, 1) := by decide +kernel
theorem dX12_judgeSelect_342 : decode cX12_judgeSelect 342 = .ok (.goto 4, 3) := by decide +kernel
theorem dX12_judgeSelect_345 : decode cX12_judgeSelect 345 = .ok (.iconst 0, 1) := by decide +kernel
theorem dX12_judgeSelect_346 : decode cX12_judgeSelect 346 = .ok (.istore_n 3, 1) := by decide +kernel
theorem dX12_judgeSelect_347 : decode cX12_judgeSelect 347 = .ok (.aload_n 0, 1) := by decide +kernel
theorem dX12_judgeSelect_348 : decode cX12_judgeSelect 348 = .ok (.getfield 100, 3) := by decide +kernel
theorem dX12_judgeSelect_351 : decode cX12_judgeSelect 351 = .ok (.iload_n 1, 1) := by decide +kernel
theorem dX12_judgeSelect_352 : decode cX12_judgeSelect 352 = .ok (.iaload, 1) := by decide +kernel
theorem dX12_judgeSelect_353 : decode cX12_judgeSelect 353 = .ok (.iconst (-1), 1) := by decide +kernel
theorem dX12_judgeSelect_354 : decode cX12_judgeSelect 354 = .ok (.if_icmp .eq 173, 3) := by decide +kernel
theorem dX12_judgeSelect_357 : decode cX12_judgeSelect 357 = .ok (.aload_n 0, 1) := by decide +kernel
theorem dX12_judgeSelect_358 : decode cX12_judgeSelect 358 = .ok (.getfield 292, 3) := by decide +kernel
theorem dX12_judgeSelect_361 : decode cX12_judgeSelect 361 = .ok (.ifCond .eq 166, 3) := by decide +kernel
theorem dX12_judgeSelect_364 : decode cX12_judgeSelect 364 = .ok (.aload_n 0, 1) := by decide +kernel
theorem dX12_judgeSelect_365 : decode cX12_judgeSelect 365 = .ok (.iload_n 3, 1) := by decide +kernel
theorem dX12_judgeSelect_366 : decode cX12_judgeSelect 366 = .ok (.aload_n 0, 1) := by decide +kernel
theorem dX12_judgeSelect_367 : decode cX12_judgeSelect 367 = .ok (.getfield 100, 3) := by decide +kernel
theorem dX12_judgeSelect_370 : decode cX12_judgeSelect 370 = .ok (.iload_n 1, 1) := by decide +kernel
theorem dX12_judgeSelect_371 : decode cX12_judgeSelect 371 = .ok (.iaload, 1) := by decide +kernel
theorem dX12_judgeSelect_372 : decode cX12_judgeSelect 372 = .ok (.invokevirtual 558, 3) := by decide +kernel
theorem dX12_judgeSelect_375 : decode cX12_judgeSelect 375 = .ok (.iconst 0, 1) := by decide +kernel
theorem dX12_judgeSelect_376 : decode cX12_judgeSelect 376 = .ok (.istore 4, 2) := by decide +kernel
theorem dX12_judgeSelect_378 : decode cX12_judgeSelect 378 = .ok (.iload 4, 2) := by decide +kernel
theorem dX12_judgeSelect_380 : decode cX12_judgeSelect 380 = .ok (.aload_n 0, 1) := by decide +kernel
theorem dX12_judgeSelect_381 : decode cX12_judgeSelect 381 = .ok (.getfield 97, 3) := by decide +kernel
theorem dX12_judgeSelect_384 : decode cX12_judgeSelect 384 = .ok (.iload_n 1, 1) := by decide +kernel
theorem dX12_judgeSelect_385 : decode cX12_judgeSelect 385 = .ok (.iaload, 1) := by decide +kernel
theorem dX12_judgeSelect_386 : decode cX12_judgeSelect 386 = .ok (.if_icmp .ge 138, 3) := by decide +kernel
theorem dX12_judgeSelect_389 : decode cX12_judgeSelect 389 = .ok (.aload_n 0, 1) := by decide +kernel
theorem dX12_judgeSelect_390 : decode cX12_judgeSelect 390 = .ok (.getfield 292, 3) := by decide +kernel
theorem dX12_judgeSelect_393 : decode cX12_judgeSelect 393 = .ok (.ifCond .eq 131, 3) := by decide +kernel
theorem dX12_judgeSelect_396 : decode cX12_judgeSelect 396 = .ok (.aload_n 0, 1) := by decide +kernel
theorem dX12_judgeSelect_397 : decode cX12_judgeSelect 397 = .ok (.getfield 121, 3) := by decide +kernel
theorem dX12_judgeSelect_400 : decode cX12_judgeSelect 400 = .ok (.bipush 8, 2) := by decide +kernel
theorem dX12_judgeSelect_402 : decode cX12_judgeSelect 402 = .ok (.iload_n 1, 1) := by decide +kernel
theorem dX12_judgeSelect_403 : decode cX12_judgeSelect 403 = .ok (.imul, 1) := by decide +kernel
theorem dX12_judgeSelect_404 : decode cX12_judgeSelect 404 = .ok (.iload 4, 2) := by decide +kernel
theorem dX12_judgeSelect_406 : decode cX12_judgeSelect 406 = .ok (.iadd, 1) := by decide +kernel
theorem dX12_judgeSelect_407 : decode cX12_judgeSelect 407 = .ok (.iaload, 1) := by decide +kernel
theorem dX12_judgeSelect_408 : decode cX12_judgeSelect 408 = .ok (.istore 5, 2) := by decide +kernel
theorem dX12_judgeSelect_410 : decode cX12_judgeSelect 410 = .ok (.aload_n 0, 1) := by decide +kernel
theorem dX12_judgeSelect_411 : decode cX12_judgeSelect 411 = .ok (.iload 5, 2) := by decide +kernel
theorem dX12_judgeSelect_413 : decode cX12_judgeSelect 413 = .ok (.invokevirtual 537, 3) := by decide +kernel
theorem dX12_judgeSelect_416 : decode cX12_judgeSelect 416 = .ok (.aload_n 0, 1) := by decide +kernel
theorem dX12_judgeSelect_417 : decode cX12_judgeSelect 417 = .ok (.getfield 187, 3) := by decide +kernel
theorem dX12_judgeSelect_420 : decode cX12_judgeSelect 420 = .ok (.bipush 8, 2) := by decide +kernel
theorem dX12_judgeSelect_422 : decode cX12_judgeSelect 422 = .ok (.iload_n 1, 1) := by decide +kernel
theorem dX12_judgeSelect_423 : decode cX12_judgeSelect 423 = .ok (.imul, 1) := by decide +kernel
theorem dX12_judgeSelect_424 : decode cX12_judgeSelect 424 = .ok (.iload 4, 2) := by decide +kernel
theorem dX12_judgeSelect_426 : decode cX12_judgeSelect 426 = .ok (.iadd, 1) := by decide +kernel
theorem dX12_judgeSelect_427 : decode cX12_judgeSelect 427 = .ok (.aload_n 0, 1) := by decide +kernel
theorem dX12_judgeSelect_428 : decode cX12_judgeSelect 428 = .ok (.getfield 76, 3) := by decide +kernel
theorem dX12_judgeSelect_431 : decode cX12_judgeSelect 431 = .ok (.iload 5, 2) := by decide +kernel
theorem dX12_judgeSelect_433 : decode cX12_judgeSelect 433 = .ok (.iaload, 1) := by decide +kernel
theorem dX12_judgeSelect_434 : decode cX12_judgeSelect 434 = .ok (.ifCond .ne 7, 3) := by decide +kernel
theorem dX12_judgeSelect_437 : decode cX12_judgeSelect 437 = .ok (.iconst 1, 1) := by decide +kernel
theorem dX12_judgeSelect_438 : decode cX12_judgeSelect 438 = .ok (.goto 10, 3) := by decide +kernel
theorem dX12_judgeSelect_441 : decode cX12_judgeSelect 441 = .ok (.aload_n 0, 1) := by decide +kernel
theorem dX12_judgeSelect_442 : decode cX12_judgeSelect 442 = .ok (.getfield 76, 3) := by decide +kernel
theorem dX12_judgeSelect_445 : decode cX12_judgeSelect 445 = .ok (.iload 5, 2) := by decide +kernel
theorem dX12_judgeSelect_447 : decode cX12_judgeSelect 447 = .ok (.iaload, 1) := by decide +kernel
theorem dX12_judgeSelect_448 : decode cX12_judgeSelect 448 = .ok (.iastore, 1) := by decide +kernel
theorem dX12_judgeSelect_449 : decode cX12_judgeSelect 449 = .ok (.iconst 0, 1) := by decide +kernel
theorem dX12_judgeSelect_450 : decode cX12_judgeSelect 450 = .ok (.istore 6, 2) := by decide +kernel
theorem dX12_judgeSelect_452 : decode cX12_judgeSelect 452 = .ok (.iload 6, 2) := by decide +kernel
theorem dX12_judgeSelect_454 : decode cX12_judgeSelect 454 = .ok (.iload 4, 2) := by decide +kernel
theorem dX12_judgeSelect_456 : decode cX12_judgeSelect 456 = .ok (.if_icmp .ge 62, 3) := by decide +kernel
theorem dX12_judgeSelect_459 : decode cX12_judgeSelect 459 = .ok (.aload_n 0, 1) := by decide +kernel
theorem dX12_judgeSelect_460 : decode cX12_judgeSelect 460 = .ok (.aload_n 0, 1) := by decide +kernel
theorem dX12_judgeSelect_461 : decode cX12_judgeSelect 461 = .ok (.getfield 124, 3) := by decide +kernel
theorem dX12_judgeSelect_464 : decode cX12_judgeSelect 464 = .ok (.bipush 8, 2) := by decide +kernel
theorem dX12_judgeSelect_466 : decode cX12_judgeSelect 466 = .ok (.iload_n 1, 1) := by decide +kernel
theorem dX12_judgeSelect_467 : decode cX12_judgeSelect 467 = .ok (.imul, 1) := by decide +kernel
theorem dX12_judgeSelect_468 : decode cX12_judgeSelect 468 = .ok (.iload 4, 2) := by decide +kernel
theorem dX12_judgeSelect_470 : decode cX12_judgeSelect 470 = .ok (.iadd, 1) := by decide +kernel
theorem dX12_judgeSelect_471 : decode cX12_judgeSelect 471 = .ok (.iaload, 1) := by decide +kernel
theorem dX12_judgeSelect_472 : decode cX12_judgeSelect 472 = .ok (.aload_n 0, 1) := by decide +kernel
theorem dX12_judgeSelect_473 : decode cX12_judgeSelect 473 = .ok (.getfield 124, 3) := by decide +kernel
theorem dX12_judgeSelect_476 : decode cX12_judgeSelect 476 = .ok (.bipush 8, 2) := by decide +kernel
theorem dX12_judgeSelect_478 : decode cX12_judgeSelect 478 = .ok (.iload_n 1, 1) := by decide +kernel
theorem dX12_judgeSelect_479 : decode cX12_judgeSelect 479 = .ok (.imul, 1) := by decide +kernel
theorem dX12_judgeSelect_480 : decode cX12_judgeSelect 480 = .ok (.iload 6, 2) := by decide +kernel
theorem dX12_judgeSelect_482 : decode cX12_judgeSelect 482 = .ok (.iadd, 1) := by decide +kernel
theorem dX12_judgeSelect_483 : decode cX12_judgeSelect 483 = .ok (.iaload, 1) := by decide +kernel
theorem dX12_judgeSelect_484 : decode cX12_judgeSelect 484 = .ok (.invokevirtual 508, 3) := by decide +kernel
theorem dX12_judgeSelect_487 : decode cX12_judgeSelect 487 = .ok (.ifCond .eq 25, 3) := by decide +kernel
theorem dX12_judgeSelect_490 : decode cX12_judgeSelect 490 = .ok (.aload_n 0, 1) := by decide +kernel
theorem dX12_judgeSelect_491 : decode cX12_judgeSelect 491 = .ok (.iconst 2, 1) := by decide +kernel
theorem dX12_judgeSelect_492 : decode cX12_judgeSelect 492 = .ok (.aload_n 0, 1) := by decide +kernel
theorem dX12_judgeSelect_493 : decode cX12_judgeSelect 493 = .ok (.getfield 43, 3) := by decide +kernel
theorem dX12_judgeSelect_496 : decode cX12_judgeSelect 496 = .ok (.aload_n 0, 1) := by decide +kernel
theorem dX12_judgeSelect_497 : decode cX12_judgeSelect 497 = .ok (.getfield 124, 3) := by decide +kernel
theorem dX12_judgeSelect_500 : decode cX12_judgeSelect 500 = .ok (.bipush 8, 2) := by decide +kernel
theorem dX12_judgeSelect_502 : decode cX12_judgeSelect 502 = .ok (.iload_n 1, 1) := by decide +kernel
theorem dX12_judgeSelect_503 : decode cX12_judgeSelect 503 = .ok (.imul, 1) := by decide +kernel
theorem dX12_judgeSelect_504 : decode cX12_judgeSelect 504 = .ok (.iload 4, 2) := by decide +kernel
theorem dX12_judgeSelect_506 : decode cX12_judgeSelect 506 = .ok (.iadd, 1) := by decide +kernel
theorem dX12_judgeSelect_507 : decode cX12_judgeSelect 507 = .ok (.iaload, 1) := by decide +kernel
theorem dX12_judgeSelect_508 : decode cX12_judgeSelect 508 = .ok (.iaload, 1) := by decide +kernel
theorem dX12_judgeSelect_509 : decode cX12_judgeSelect 509 = .ok (.invokevirtual 305, 3) := by decide +kernel
theorem dX12_judgeSelect_512 : decode cX12_judgeSelect 512 = .ok (.iinc 6 1, 3) := by decide +kernel
theorem dX12_judgeSelect_515 : decode cX12_judgeSelect 515 = .ok (.goto (-63), 3) := by decide +kernel
theorem dX12_judgeSelect_518 : decode cX12_judgeSelect 518 = .ok (.iinc 4 1, 3) := by decide +kernel
theorem dX12_judgeSelect_521 : decode cX12_judgeSelect 521 = .ok (.goto (-143), 3) := by decide +kernel
theorem dX12_judgeSelect_524 : decode cX12_judgeSelect 524 = .ok (.goto 30, 3) := by decide +kernel
theorem dX12_judgeSelect_527 : decode cX12_judgeSelect 527 = .ok (.aload_n 0, 1) := by decide +kernel
theorem dX12_judgeSelect_528 : decode cX12_judgeSelect 528 = .ok (.getfield 106, 3) := by decide +kernel
theorem dX12_judgeSelect_531 : decode cX12_judgeSelect 531 = .ok (.iload_n 1, 1) := by decide +kernel
theorem dX12_judgeSelect_532 : decode cX12_judgeSelect 532 = .ok (.iaload, 1) := by decide +kernel
theorem dX12_judgeSelect_533 : decode cX12_judgeSelect 533 = .ok (.ifCond .le 21, 3) := by decide +kernel
theorem dX12_judgeSelect_536 : decode cX12_judgeSelect 536 = .ok (.aload_n 0, 1) := by decide +kernel
theorem dX12_judgeSelect_537 : decode cX12_judgeSelect 537 = .ok (.getfield 292, 3) := by decide +kernel
theorem dX12_judgeSelect_540 : decode cX12_judgeSelect 540 = .ok (.ifCond .eq 14, 3) := by decide +kernel
theorem dX12_judgeSelect_543 : decode cX12_judgeSelect 543 = .ok (.aload_n 0, 1) := by decide +kernel
theorem dX12_judgeSelect_544 : decode cX12_judgeSelect 544 = .ok (.iload_n 3, 1) := by decide +kernel
theorem dX12_judgeSelect_545 : decode cX12_judgeSelect 545 = .ok (.aload_n 0, 1) := by decide +kernel
theorem dX12_judgeSelect_546 : decode cX12_judgeSelect 546 = .ok (.getfield 109, 3) := by decide +kernel
theorem dX12_judgeSelect_549 : decode cX12_judgeSelect 549 = .ok (.iload_n 1, 1) := by decide +kernel
theorem dX12_judgeSelect_550 : decode cX12_judgeSelect 550 = .ok (.iaload, 1) := by decide +kernel
theorem dX12_judgeSelect_551 : decode cX12_judgeSelect 551 = .ok (.invokevirtual 558, 3) := by decide +kernel
theorem dX12_judgeSelect_554 : decode cX12_judgeSelect 554 = .ok (.aload_n 0, 1) := by decide +kernel
theorem dX12_judgeSelect_555 : decode cX12_judgeSelect 555 = .ok (.aload_n 0, 1) := by decide +kernel
theorem dX12_judgeSelect_556 : decode cX12_judgeSelect 556 = .ok (.iload_n 1, 1) := by decide +kernel
theorem dX12_judgeSelect_557 : decode cX12_judgeSelect 557 = .ok (.invokevirtual 571, 3) := by decide +kernel
theorem dX12_judgeSelect_560 : decode cX12_judgeSelect 560 = .ok (.ifCond .eq 7, 3) := by decide +kernel
theorem dX12_judgeSelect_563 : decode cX12_judgeSelect 563 = .ok (.iconst 1, 1) := by decide +kernel
theorem dX12_judgeSelect_564 : decode cX12_judgeSelect 564 = .ok (.goto 4, 3) := by decide +kernel
theorem dX12_judgeSelect_567 : decode cX12_judgeSelect 567 = .ok (.iconst 0, 1) := by decide +kernel
theorem dX12_judgeSelect_568 : decode cX12_judgeSelect 568 = .ok (.putfield 512, 3) := by decide +kernel
theorem dX12_judgeSelect_571 : decode cX12_judgeSelect 571 = .ok (.aload_n 0, 1) := by decide +kernel
theorem dX12_judgeSelect_572 : decode cX12_judgeSelect 572 = .ok (.iload_n 1, 1) := by decide +kernel
theorem dX12_judgeSelect_573 : decode cX12_judgeSelect 573 = .ok (.putfield 518, 3) := by decide +kernel
theorem dX12_judgeSelect_576 : decode cX12_judgeSelect 576 = .ok (.aload_n 0, 1) := by decide +kernel
theorem dX12_judgeSelect_577 : decode cX12_judgeSelect 577 = .ok (.aload_n 0, 1) := by decide +kernel
theorem dX12_judgeSelect_578 : decode cX12_judgeSelect 578 = .ok (.getfield 91, 3) := by decide +kernel
theorem dX12_judgeSelect_581 : decode cX12_judgeSelect 581 = .ok (.iload_n 1, 1) := by decide +kernel
theorem dX12_judgeSelect_582 : decode cX12_judgeSelect 582 = .ok (.iaload, 1) := by decide +kernel
theorem dX12_judgeSelect_583 : decode cX12_judgeSelect 583 = .ok (.putfield 515, 3) := by decide +kernel
theorem dX12_judgeSelect_586 : decode cX12_judgeSelect 586 = .ok (.aload_n 0, 1) := by decide +kernel
theorem dX12_judgeSelect_587 : decode cX12_judgeSelect 587 = .ok (.getfield 103, 3) := by decide +kernel
theorem dX12_judgeSelect_590 : decode cX12_judgeSelect 590 = .ok (.iload_n 1, 1) := by decide +kernel
theorem dX12_judgeSelect_591 : decode cX12_judgeSelect 591 = .ok (.iaload, 1) := by decide +kernel
theorem dX12_judgeSelect_592 : decode cX12_judgeSelect 592 = .ok (.iconst (-1), 1) := by decide +kernel
theorem dX12_judgeSelect_593 : decode cX12_judgeSelect 593 = .ok (.if_icmp .eq 31, 3) := by decide +kernel
theorem dX12_judgeSelect_596 : decode cX12_judgeSelect 596 = .ok (.aload_n 0, 1) := by decide +kernel
theorem dX12_judgeSelect_597 : decode cX12_judgeSelect 597 = .ok (.getfield 292, 3) := by decide +kernel
theorem dX12_judgeSelect_600 : decode cX12_judgeSelect 600 = .ok (.ifCond .eq 24, 3) := by decide +kernel
theorem dX12_judgeSelect_603 : decode cX12_judgeSelect 603 = .ok (.aload_n 0, 1) := by decide +kernel
theorem dX12_judgeSelect_604 : decode cX12_judgeSelect 604 = .ok (.aload_n 0, 1) := by decide +kernel
theorem dX12_judgeSelect_605 : decode cX12_judgeSelect 605 = .ok (.getfield 103, 3) := by decide +kernel
theorem dX12_judgeSelect_608 : decode cX12_judgeSelect 608 = .ok (.iload_n 1, 1) := by decide +kernel
theorem dX12_judgeSelect_609 : decode cX12_judgeSelect 609 = .ok (.iaload, 1) := by decide +kernel
theorem dX12_judgeSelect_610 : decode cX12_judgeSelect 610 = .ok (.invokevirtual 537, 3) := by decide +kernel
theorem dX12_judgeSelect_613 : decode cX12_judgeSelect 613 = .ok (.aload_n 0, 1) := by decide +kernel
theorem dX12_judgeSelect_614 : decode cX12_judgeSelect 614 = .ok (.aload_n 0, 1) := by decide +kernel
theorem dX12_judgeSelect_615 : decode cX12_judgeSelect 615 = .ok (.getfield 103, 3) := by decide +kernel
theorem dX12_judgeSelect_618 : decode cX12_judgeSelect 618 = .ok (.iload_n 1, 1) := by decide +kernel
theorem dX12_judgeSelect_619 : decode cX12_judgeSelect 619 = .ok (.iaload, 1) := by decide +kernel
theorem dX12_judgeSelect_620 : decode cX12_judgeSelect 620 = .ok (.iconst 2, 1) := by decide +kernel
theorem dX12_judgeSelect_621 : decode cX12_judgeSelect 621 = .ok (.invokevirtual 540, 3) := by decide +kernel
theorem dX12_judgeSelect_624 : decode cX12_judgeSelect 624 = .ok (.iconst 0, 1) := by decide +kernel
theorem dX12_judgeSelect_625 : decode cX12_judgeSelect 625 = .ok (.istore 4, 2) := by decide +kernel
theorem dX12_judgeSelect_627 : decode cX12_judgeSelect 627 = .ok (.iload 4, 2) := by decide +kernel
theorem dX12_judgeSelect_629 : decode cX12_judgeSelect 629 = .ok (.aload_n 0, 1) := by decide +kernel
theorem dX12_judgeSelect_630 : decode cX12_judgeSelect 630 = .ok (.getfield 88, 3) := by decide +kernel
theorem dX12_judgeSelect_633 : decode cX12_judgeSelect 633 = .ok (.iload_n 1, 1) := by decide +kernel
theorem dX12_judgeSelect_634 : decode cX12_judgeSelect 634 = .ok (.iaload, 1) := by decide +kernel
theorem dX12_judgeSelect_635 : decode cX12_judgeSelect 635 = .ok (.if_icmp .ge 69, 3) := by decide +kernel
theorem dX12_judgeSelect_638 : decode cX12_judgeSelect 638 = .ok (.aload_n 0, 1) := by decide +kernel
theorem dX12_judgeSelect_639 : decode cX12_judgeSelect 639 = .ok (.getfield 292, 3) := by decide +kernel
theorem dX12_judgeSelect_642 : decode cX12_judgeSelect 642 = .ok (.ifCond .eq 62, 3) := by decide +kernel
theorem dX12_judgeSelect_645 : decode cX12_judgeSelect 645 = .ok (.aload_n 0, 1) := by decide +kernel
theorem dX12_judgeSelect_646 : decode cX12_judgeSelect 646 = .ok (.getfield 112, 3) := by decide +kernel
theorem dX12_judgeSelect_649 : decode cX12_judgeSelect 649 = .ok (.bipush 8, 2) := by decide +kernel
theorem dX12_judgeSelect_651 : decode cX12_judgeSelect 651 = .ok (.iload_n 1, 1) := by decide +kernel
theorem dX12_judgeSelect_652 : decode cX12_judgeSelect 652 = .ok (.imul, 1) := by decide +kernel
theorem dX12_judgeSelect_653 : decode cX12_judgeSelect 653 = .ok (.iload 4, 2) := by decide +kernel
theorem dX12_judgeSelect_655 : decode cX12_judgeSelect 655 = .ok (.iadd, 1) := by decide +kernel
theorem dX12_judgeSelect_656 : decode cX12_judgeSelect 656 = .ok (.iaload, 1) := by decide +kernel
theorem dX12_judgeSelect_657 : decode cX12_judgeSelect 657 = .ok (.istore 5, 2) := by decide +kernel
theorem dX12_judgeSelect_659 : decode cX12_judgeSelect 659 = .ok (.aload_n 0, 1) := by decide +kernel
theorem dX12_judgeSelect_660 : decode cX12_judgeSelect 660 = .ok (.iload 5, 2) := by decide +kernel
theorem dX12_judgeSelect_662 : decode cX12_judgeSelect 662 = .ok (.invokevirtual 537, 3) := by decide +kernel
theorem dX12_judgeSelect_665 : decode cX12_judgeSelect 665 = .ok (.aload_n 0, 1) := by decide +kernel
theorem dX12_judgeSelect_666 : decode cX12_judgeSelect 666 = .ok (.getfield 118, 3) := by decide +kernel
theorem dX12_judgeSelect_669 : decode cX12_judgeSelect 669 = .ok (.bipush 8, 2) := by decide +kernel
theorem dX12_judgeSelect_671 : decode cX12_judgeSelect 671 = .ok (.iload_n 1, 1) := by decide +kernel
theorem dX12_judgeSelect_672 : decode cX12_judgeSelect 672 = .ok (.imul, 1) := by decide +kernel
theorem dX12_judgeSelect_673 : decode cX12_judgeSelect 673 = .ok (.iload 4, 2) := by decide +kernel
theorem dX12_judgeSelect_675 : decode cX12_judgeSelect 675 = .ok (.iadd, 1) := by decide +kernel
theorem dX12_judgeSelect_676 : decode cX12_judgeSelect 676 = .ok (.aload_n 0, 1) := by decide +kernel
theorem dX12_judgeSelect_677 : decode cX12_judgeSelect 677 = .ok (.getfield 76, 3) := by decide +kernel
theorem dX12_judgeSelect_680 : decode cX12_judgeSelect 680 = .ok (.iload 5, 2) := by decide +kernel
theorem dX12_judgeSelect_682 : decode cX12_judgeSelect 682 = .ok (.iaload, 1) := by decide +kernel
theorem dX12_judgeSelect_683 : decode cX12_judgeSelect 683 = .ok (.ifCond .ne 7, 3) := by decide +kernel
theorem dX12_judgeSelect_686 : decode cX12_judgeSelect 686 = .ok (.iconst 1, 1) := by decide +kernel
theorem dX12_judgeSelect_687 : decode cX12_judgeSelect 687 = .ok (.goto 10, 3) := by decide +kernel
theorem dX12_judgeSelect_690 : decode cX12_judgeSelect 690 = .ok (.aload_n 0, 1) := by decide +kernel
theorem dX12_judgeSelect_691 : decode cX12_judgeSelect 691 = .ok (.getfield 76, 3) := by decide +kernel
theorem dX12_judgeSelect_694 : decode cX12_judgeSelect 694 = .ok (.iload 5, 2) := by decide +kernel
theorem dX12_judgeSelect_696 : decode cX12_judgeSelect 696 = .ok (.iaload, 1) := by decide +kernel
theorem dX12_judgeSelect_697 : decode cX12_judgeSelect 697 = .ok (.iastore, 1) := by decide +kernel
theorem dX12_judgeSelect_698 : decode cX12_judgeSelect 698 = .ok (.iinc 4 1, 3) := by decide +kernel
theorem dX12_judgeSelect_701 : decode cX12_judgeSelect 701 = .ok (.goto (-74), 3) := by decide +kernel
theorem dX12_judgeSelect_704 : decode cX12_judgeSelect 704 = .ok (.aload_n 0, 1) := by decide +kernel
theorem dX12_judgeSelect_705 : decode cX12_judgeSelect 705 = .ok (.getfield 85, 3) := by decide +kernel
theorem dX12_judgeSelect_708 : decode cX12_judgeSelect 708 = .ok (.iload_n 1, 1) := by decide +kernel
theorem dX12_judgeSelect_709 : decode cX12_judgeSelect 709 = .ok (.iaload, 1) := by decide +kernel
theorem dX12_judgeSelect_710 : decode cX12_judgeSelect 710 = .ok (.iconst (-1), 1) := by decide +kernel
theorem dX12_judgeSelect_711 : decode cX12_judgeSelect 711 = .ok (.if_icmp .eq 21, 3) := by decide +kernel
theorem dX12_judgeSelect_714 : decode cX12_judgeSelect 714 = .ok (.aload_n 0, 1) := by decide +kernel
theorem dX12_judgeSelect_715 : decode cX12_judgeSelect 715 = .ok (.getfield 292, 3) := by decide +kernel
theorem dX12_judgeSelect_718 : decode cX12_judgeSelect 718 = .ok (.ifCond .eq 14, 3) := by decide +kernel
theorem dX12_judgeSelect_721 : decode cX12_judgeSelect 721 = .ok (.aload_n 0, 1) := by decide +kernel
theorem dX12_judgeSelect_722 : decode cX12_judgeSelect 722 = .ok (.iload_n 3, 1) := by decide +kernel
theorem dX12_judgeSelect_723 : decode cX12_judgeSelect 723 = .ok (.aload_n 0, 1) := by decide +kernel
theorem dX12_judgeSelect_724 : decode cX12_judgeSelect 724 = .ok (.getfield 85, 3) := by decide +kernel
theorem dX12_judgeSelect_727 : decode cX12_judgeSelect 727 = .ok (.iload_n 1, 1) := by decide +kernel
theorem dX12_judgeSelect_728 : decode cX12_judgeSelect 728 = .ok (.iaload, 1) := by decide +kernel
theorem dX12_judgeSelect_729 : decode cX12_judgeSelect 729 = .ok (.invokevirtual 558, 3) := by decide +kernel
theorem dX12_judgeSelect_732 : decode cX12_judgeSelect 732 = .ok (.return_, 1) := by decide +kernel
def m_judgeSelect_b732 (F : Nat) (T : TG_judgeQuery) (cs1 : RS) : Option RS := some cs1
def m_judgeSelect_b704 (F : Nat) (T : TG_judgeQuery) (cs1 : RS) (u1 : Int32) (u3 : Int32) : Option RS := Option.bind (rdI (cs1.2.2.1 35) 60 u1) fun v_1 => if v_1 = (-1) then (m_judgeSelect_b732 F T cs1) else (if (cs1.1 21) = 0 then (m_judgeSelect_b732 F T cs1) else (Option.bind (rdI (cs1.2.2.1 35) 60 u1) fun v_4 => Option.bind (m_bounded F cs1 u3 v_4) fun cs_5 => m_judgeSelect_b732 F T cs_5))
def m_judgeSelect_b697 (F : Nat) (T : TG_judgeQuery) (rc627 : RS → Int32 → Int32 → Int32 → Option RS) (cs1 : RS) (u1 : Int32) (u3 : Int32) (u4 : Int32) (y0 : Int32) (y1 : Int32) : Option RS := Option.bind (wrI cs1 46 480 y1 y0) fun cs_6 => rc627 cs_6 u1 u3 (u4 + 1)
def m_judgeSelect_L627 (F : Nat) (T : TG_judgeQuery) : Nat → RS → Int32 → Int32 → Int32 → Option RS
  | 0, _, _, _, _ => none
  | lf_627 + 1, cs1, u1, u3, u4 => Option.bind (rdI (cs1.2.2.1 36) 60 u1) fun v_7 => if v_7 ≤ u4 then (m_judgeSelect_b704 F T cs1 u1 u3) else (if (cs1.1 21) = 0 then (m_judgeSelect_b704 F T cs1 u1 u3) else (Option.bind (rdI (cs1.2.2.1 44) 480 ((8 * u1) + u4)) fun v_10 => Option.bind (m_judge F 300 cs1 v_10) fun cs_11 => Option.bind (rdI (cs_11.2.2.1 31) 121 v_10) fun v_12 => if v_12 = 0 then (m_judgeSelect_b697 F T (m_judgeSelect_L627 F T lf_627) cs_11 u1 u3 u4 1 ((8 * u1) + u4)) else (Option.bind (rdI (cs_11.2.2.1 31) 121 v_10) fun v_14 => m_judgeSelect_b697 F T (m_judgeSelect_L627 F T lf_627) cs_11 u1 u3 u4 v_14 ((8 * u1) + u4))))
def m_judgeSelect_b624 (F : Nat) (T : TG_judgeQuery) (cs1 : RS) (u1 : Int32) (u3 : Int32) : Option RS := m_judgeSelect_L627 F T F cs1 u1 u3 0
def m_judgeSelect_b568 (F : Nat) (T : TG_judgeQuery) (cs1 : RS) (u1 : Int32) (u3 : Int32) (y0 : Int32) : Option RS := Option.bind (rdI ((setF (setF cs1 76 y0) 77 u1).2.2.1 37) 60 u1) fun v_15 => Option.bind (rdI ((setF (setF (setF cs1 76 y0) 77 u1) 78 v_15).2.2.1 41) 60 u1) fun v_16 => if v_16 = (-1) then (m_judgeSelect_b624 F T (setF (setF (setF cs1 76 y0) 77 u1) 78 v_15) u1 u3) else (if ((setF (setF (setF cs1 76 y0) 77 u1) 78 v_15).1 21) = 0 then (m_judgeSelect_b624 F T (setF (setF (setF cs1 76 y0) 77 u1) 78 v_15) u1 u3) else (Option.bind (rdI ((setF (setF (setF cs1 76 y0) 77 u1) 78 v_15).2.2.1 41) 60 u1) fun v_19 => Option.bind (m_judge F 300 (setF (setF (setF cs1 76 y0) 77 u1) 78 v_15) v_19) fun cs_20 => Option.bind (rdI (cs_20.2.2.1 41) 60 u1) fun v_21 => Option.bind (m_want F cs_20 v_21 2) fun cs_22 => m_judgeSelect_b624 F T cs_22 u1 u3))
def m_judgeSelect_b554 (F : Nat) (T : TG_judgeQuery) (cs1 : RS) (u1 : Int32) (u3 : Int32) : Option RS := Option.bind (m_isGrouped F cs1 u1) fun v_23 => if v_23 = 0 then (m_judgeSelect_b568 F T cs1 u1 u3 0) else (m_judgeSelect_b568 F T cs1 u1 u3 1)
def m_judgeSelect_b524 (F : Nat) (T : TG_judgeQuery) (cs1 : RS) (u1 : Int32) (u3 : Int32) : Option RS := m_judgeSelect_b554 F T cs1 u1 u3
def m_judgeSelect_b512 (F : Nat) (T : TG_judgeQuery) (rc378 : RS → Int32 → Int32 → Int32 → Option RS) (rc452 : RS → Int32 → Int32 → Int32 → Int32 → Option RS) (cs1 : RS) (u1 : Int32) (u3 : Int32) (u4 : Int32) (u6 : Int32) : Option RS := rc452 cs1 u1 u3 u4 (u6 + 1)
def m_judgeSelect_L452 (F : Nat) (T : TG_judgeQuery) (rc378 : RS → Int32 → Int32 → Int32 → Option RS) : Nat → RS → Int32 → Int32 → Int32 → Int32 → Option RS
  | 0, _, _, _, _, _ => none
  | lf_452 + 1, cs1, u1, u3, u4, u6 => if u4 ≤ u6 then (rc378 cs1 u1 u3 (u4 + 1)) else (Option.bind (rdI (cs1.2.2.1 48) 480 ((8 * u1) + u4)) fun v_26 => Option.bind (rdI (cs1.2.2.1 48) 480 ((8 * u1) + u6)) fun v_27 => Option.bind (m_isSame F cs1 v_26 v_27) fun v_28 => if v_28 = 0 then (m_judgeSelect_b512 F T rc378 (m_judgeSelect_L452 F T rc378 lf_452) cs1 u1 u3 u4 u6) else (Option.bind (rdI (cs1.2.2.1 48) 480 ((8 * u1) + u4)) fun v_30 => Option.bind (rdI (cs1.2.2.1 15) 2001 v_30) fun v_31 => Option.bind (m_tell F cs1 2 v_31) fun cs_32 => m_judgeSelect_b512 F T rc378 (m_judgeSelect_L452 F T rc378 lf_452) cs_32 u1 u3 u4 u6))
def m_judgeSelect_b448 (F : Nat) (T : TG_judgeQuery) (rc378 : RS → Int32 → Int32 → Int32 → Option RS) (cs1 : RS) (u1 : Int32) (u3 : Int32) (u4 : Int32) (y0 : Int32) (y1 : Int32) : Option RS := Option.bind (wrI cs1 80 480 y1 y0) fun cs_33 => m_judgeSelect_L452 F T rc378 F cs_33 u1 u3 u4 0
def m_judgeSelect_L378 (F : Nat) (T : TG_judgeQuery) : Nat → RS → Int32 → Int32 → Int32 → Option RS
  | 0, _, _, _, _ => none
  | lf_378 + 1, cs1, u1, u3, u4 => Option.bind (rdI (cs1.2.2.1 39) 60 u1) fun v_34 => if v_34 ≤ u4 then (m_judgeSelect_b524 F T cs1 u1 u3) else (if (cs1.1 21) = 0 then (m_judgeSelect_b524 F T cs1 u1 u3) else (Option.bind (rdI (cs1.2.2.1 47) 480 ((8 * u1) + u4)) fun v_37 => Option.bind (m_judge F 300 cs1 v_37) fun cs_38 => Option.bind (rdI (cs_38.2.2.1 31) 121 v_37) fun v_39 => if v_39 = 0 then (m_judgeSelect_b448 F T (m_judgeSelect_L378 F T lf_378) cs_38 u1 u3 u4 1 ((8 * u1) + u4)) else (Option.bind (rdI (cs_38.2.2.1 31) 121 v_37) fun v_41 => m_judgeSelect_b448 F T (m_judgeSelect_L378 F T lf_378) cs_38 u1 u3 u4 v_41 ((8 * u1) + u4))))
def m_judgeSelect_b527 (F : Nat) (T : TG_judgeQuery) (cs1 : RS) (u1 : Int32) (u3 : Int32) : Option RS := Option.bind (rdI (cs1.2.2.1 42) 60 u1) fun v_42 => if v_42 ≤ 0 then (m_judgeSelect_b554 F T cs1 u1 u3) else (if (cs1.1 21) = 0 then (m_judgeSelect_b554 F T cs1 u1 u3) else (Option.bind (rdI (cs1.2.2.1 43) 60 u1) fun v_45 => Option.bind (m_bounded F cs1 u3 v_45) fun cs_46 => m_judgeSelect_b554 F T cs_46 u1 u3))
def m_judgeSelect_b346 (F : Nat) (T : TG_judgeQuery) (cs1 : RS) (u1 : Int32) (y0 : Int32) : Option RS := Option.bind (rdI (cs1.2.2.1 40) 60 u1) fun v_47 => if v_47 = (-1) then (m_judgeSelect_b527 F T cs1 u1 y0) else (if (cs1.1 21) = 0 then (m_judgeSelect_b527 F T cs1 u1 y0) else (Option.bind (rdI (cs1.2.2.1 40) 60 u1) fun v_50 => Option.bind (m_bounded F cs1 y0 v_50) fun cs_51 => m_judgeSelect_L378 F T F cs_51 u1 y0 0))
def m_judgeSelect_b345 (F : Nat) (T : TG_judgeQuery) (cs1 : RS) (u1 : Int32) : Option RS := m_judgeSelect_b346 F T cs1 u1 0
def m_judgeSelect_b320 (F : Nat) (T : TG_judgeQuery) (cs1 : RS) (u1 : Int32) : Option RS := if (cs1.1 21) = 0 then (m_judgeSelect_b345 F T cs1 u1) else (Option.bind (rdI (cs1.2.2.1 37) 60 u1) fun v_53 => Option.bind (m_isKeptSelect F 300 cs1 u1 v_53) fun v_54 => if v_54 = 0 then (m_judgeSelect_b345 F T cs1 u1) else (m_judgeSelect_b346 F T cs1 u1 1))
def m_judgeSelect_b271 (F : Nat) (T : TG_judgeQuery) (cs1 : RS) (u1 : Int32) : Option RS := Option.bind (rdI (cs1.2.2.1 37) 60 u1) fun v_56 => Option.bind (m_sourcesOf F cs1 u1 v_56) fun cs_57 => Option.bind (rdI (cs_57.2.2.1 38) 60 u1) fun v_58 => if v_58 = (-1) then (m_judgeSelect_b320 F T cs_57 u1) else (if (cs_57.1 21) = 0 then (m_judgeSelect_b320 F T cs_57 u1) else (Option.bind (rdI (cs_57.2.2.1 38) 60 u1) fun v_61 => Option.bind (m_judge F 300 cs_57 v_61) fun cs_62 => Option.bind (rdI (cs_62.2.2.1 38) 60 u1) fun v_63 => Option.bind (m_want F cs_62 v_63 2) fun cs_64 => m_judgeSelect_b320 F T cs_64 u1))
def m_judgeSelect_b265 (F : Nat) (T : TG_judgeQuery) (rc4 : RS → Int32 → Int32 → Int32 → Option RS) (cs1 : RS) (u1 : Int32) (u2 : Int32) (u3 : Int32) : Option RS := rc4 cs1 u1 u2 (u3 + 1)
def m_judgeSelect_b202 (F : Nat) (T : TG_judgeQuery) (rc4 : RS → Int32 → Int32 → Int32 → Option RS) (cs1 : RS) (u1 : Int32) (u3 : Int32) (u4 : Int32) (y0 : Int32) (y1 : Int32) : Option RS := if u3 ≤ 0 then (m_judgeSelect_b265 F T rc4 cs1 u1 (y1 + y0) u3) else (if (cs1.1 21) = 0 then (m_judgeSelect_b265 F T rc4 cs1 u1 (y1 + y0) u3) else (Option.bind (m_isKeptSelect F 300 cs1 u1 (u3 + 1)) fun v_67 => Option.bind (rdI (cs1.2.2.1 57) 180 u4) fun v_68 => Option.bind (m_bounded F cs1 v_67 v_68) fun cs_69 => Option.bind (m_sourcesOf F cs_69 u1 (u3 + 1)) fun cs_70 => Option.bind (rdI (cs_70.2.2.1 58) 180 u4) fun v_71 => Option.bind (m_judge F 300 cs_70 v_71) fun cs_72 => Option.bind (rdI (cs_72.2.2.1 58) 180 u4) fun v_73 => Option.bind (m_want F cs_72 v_73 2) fun cs_74 => m_judgeSelect_b265 F T rc4 cs_74 u1 (y1 + y0) u3))
def m_judgeSelect_b170 (F : Nat) (T : TG_judgeQuery) (rc4 : RS → Int32 → Int32 → Int32 → Option RS) (rc122 : RS → Int32 → Int32 → Int32 → Int32 → Int32 → Option RS) (cs1 : RS) (u1 : Int32) (u2 : Int32) (u3 : Int32) (u4 : Int32) (u5 : Int32) : Option RS := rc122 cs1 u1 u2 u3 u4 (u5 + 1)
def m_judgeSelect_L122 (F : Nat) (T : TG_judgeQuery) (rc4 : RS → Int32 → Int32 → Int32 → Option RS) : Nat → RS → Int32 → Int32 → Int32 → Int32 → Int32 → Option RS
  | 0, _, _, _, _, _, _ => none
  | lf_122 + 1, cs1, u1, u2, u3, u4, u5 => if u3 ≤ u5 then (Option.bind (wrI cs1 79 180 u4 u2) fun cs_76 => if (cs_76.1 21) = 0 then (m_judgeSelect_b202 F T rc4 cs_76 u1 u3 u4 0 u2) else (Option.bind (m_columnsOf F cs_76 u4) fun v_78 => m_judgeSelect_b202 F T rc4 cs_76 u1 u3 u4 v_78 u2)) else (Option.bind (rdI (cs1.2.2.1 55) 180 u4) fun v_79 => Option.bind (rdI (cs1.2.2.1 55) 180 ((3 * u1) + u5)) fun v_80 => Option.bind (m_isSame F cs1 v_79 v_80) fun v_81 => if v_81 = 0 then (m_judgeSelect_b170 F T rc4 (m_judgeSelect_L122 F T rc4 lf_122) cs1 u1 u2 u3 u4 u5) else (Option.bind (rdI (cs1.2.2.1 55) 180 u4) fun v_83 => Option.bind (rdI (cs1.2.2.1 15) 2001 v_83) fun v_84 => Option.bind (m_tell F cs1 2 v_84) fun cs_85 => m_judgeSelect_b170 F T rc4 (m_judgeSelect_L122 F T rc4 lf_122) cs_85 u1 u2 u3 u4 u5))
def m_judgeSelect_b119 (F : Nat) (T : TG_judgeQuery) (rc4 : RS → Int32 → Int32 → Int32 → Option RS) (cs1 : RS) (u1 : Int32) (u2 : Int32) (u3 : Int32) (u4 : Int32) : Option RS := m_judgeSelect_L122 F T rc4 F cs1 u1 u2 u3 u4 0
def m_judgeSelect_L4 (F : Nat) (T : TG_judgeQuery) : Nat → RS → Int32 → Int32 → Int32 → Option RS
  | 0, _, _, _, _ => none
  | lf_4 + 1, cs1, u1, u2, u3 => Option.bind (rdI (cs1.2.2.1 37) 60 u1) fun v_86 => if v_86 ≤ u3 then (m_judgeSelect_b271 F T cs1 u1) else (if (cs1.1 21) = 0 then (m_judgeSelect_b271 F T cs1 u1) else (Option.bind (rdI (cs1.2.2.1 49) 180 ((3 * u1) + u3)) fun v_89 => if v_89 = (-1) then (Option.bind (rdI (cs1.2.2.1 53) 180 ((3 * u1) + u3)) fun v_91 => Option.bind (T.1 cs1 v_91) fun cs_92 => if (cs_92.1 21) = 0 then (m_judgeSelect_b119 F T (m_judgeSelect_L4 F T lf_4) cs_92 u1 u2 u3 ((3 * u1) + u3)) else (Option.bind (rdI (cs_92.2.2.1 53) 180 ((3 * u1) + u3)) fun v_94 => Option.bind (rdI (cs_92.2.2.1 61) 300 (5 * v_94)) fun v_95 => Option.bind (m_areNamed F cs_92 v_95) fun v_96 => if v_96 = 0 then (Option.bind (rdI (cs_92.2.2.1 54) 180 ((3 * u1) + u3)) fun v_98 => Option.bind (m_tell F cs_92 2 v_98) fun cs_99 => m_judgeSelect_b119 F T (m_judgeSelect_L4 F T lf_4) cs_99 u1 u2 u3 ((3 * u1) + u3)) else (m_judgeSelect_b119 F T (m_judgeSelect_L4 F T lf_4) cs_92 u1 u2 u3 ((3 * u1) + u3)))) else (Option.bind (rdI (cs1.2.2.1 49) 180 ((3 * u1) + u3)) fun v_100 => if v_100 < (cs1.1 4) then (m_judgeSelect_b119 F T (m_judgeSelect_L4 F T lf_4) cs1 u1 u2 u3 ((3 * u1) + u3)) else (Option.bind (rdI (cs1.2.2.1 50) 180 ((3 * u1) + u3)) fun v_102 => Option.bind (m_tell F cs1 2 v_102) fun cs_103 => m_judgeSelect_b119 F T (m_judgeSelect_L4 F T lf_4) cs_103 u1 u2 u3 ((3 * u1) + u3)))))
def b_judgeSelect (F : Nat) (T : TG_judgeQuery) (cs : RS) (x1 : Int32) : Option RS := m_judgeSelect_L4 F T F cs x1 0 0
def tab_judgeQuery (F : Nat) : Nat → TG_judgeQuery
  | 0 => (fun _ _ => none, fun _ _ => none)
  | n + 1 => (b_judgeQuery F (tab_judgeQuery F n), b_judgeSelect F (tab_judgeQuery F n))
theorem cw_judgeQuery {R : Room} {s : State} {args : Array Value} {y0 : MethodName} {c0 : ByteArray} {n0 : Nat} {r0 : Option FieldType} (hts : ∀ w ∈ wsOf y0 c0 n0 r0, w.before args s = true) {fr : Nat} (h1 : fr + 1 ≤ R.frames) (h2 : 8 + (9 + 11) + 60 * fr ≤ R.locals) : CallW R s args RX12 RX12 562 yX12_judgeQuery cX12_judgeQuery 9 none (wsOf yX12_judgeQuery cX12_judgeQuery 9 none) ({ frames := fr, cells := 0, slots := 0, locals := 60 * fr } : Room) 0 0 1 := cwV 1 hts (gd_all (in_V kw_2395 kw_2397 kw_162 kw_191 kc_X12_judgeQuery)) rfl rfl rfl (by decide +kernel) ⟨h1, h2⟩
theorem cw_judgeSelect {R : Room} {s : State} {args : Array Value} {y0 : MethodName} {c0 : ByteArray} {n0 : Nat} {r0 : Option FieldType} (hts : ∀ w ∈ wsOf y0 c0 n0 r0, w.before args s = true) {fr : Nat} (h1 : fr + 1 ≤ R.frames) (h2 : 8 + (7 + 11) + 60 * fr ≤ R.locals) : CallW R s args RX12 RX12 555 yX12_judgeSelect cX12_judgeSelect 7 none (wsOf yX12_judgeSelect cX12_judgeSelect 7 none) ({ frames := fr, cells := 0, slots := 0, locals := 60 * fr } : Room) 0 0 1 := cwV 1 hts (gd_all (in_V kw_2399 kw_2401 kw_163 kw_191 kc_X12_judgeSelect)) rfl rfl rfl (by decide +kernel) ⟨h1, h2⟩
set_option maxHeartbeats 4000000 in
set_option maxRecDepth 100000 in
theorem sb_judgeQuery (l : Launch) (dC : Nat → ClassId) (dI : Nat → Nat → Nat) (cB cI cJ cZ : ClassId) (h0 : Nat) (a : Nat → Nat) (K V : Nat → Nat) (fz : Value) (F : Nat) (n : Nat) (T : TG_judgeQuery) (hT_judgeQuery : ∀ (cs : RS) (x1 : Int32) (cs9 : RS), T.1 cs x1 = some cs9 → okV l dC dI cB cI cJ cZ h0 a K V fz yX12_judgeQuery (wsOf yX12_judgeQuery cX12_judgeQuery 9 none) (n + 310) [.ref h0, .int x1] cs cs9) (hT_judgeSelect : ∀ (cs : RS) (x1 : Int32) (cs9 : RS), T.2 cs x1 = some cs9 → okV l dC dI cB cI cJ cZ h0 a K V fz yX12_judgeSelect (wsOf yX12_judgeSelect cX12_judgeSelect 7 none) (n + 310) [.ref h0, .int x1] cs cs9) (cs : RS) (x1 : Int32) (cs9 : RS) (hf : b_judgeQuery F T cs x1 = some cs9) : okV l dC dI cB cI cJ cZ h0 a K V fz yX12_judgeQuery (wsOf yX12_judgeQuery cX12_judgeQuery 9 none) (n + 1 + 310) [.ref h0, .int x1] cs cs9 := by
  intro sz
  refine Met.ofW (cc := cX12_judgeQuery) (maxL := 9) (ret := none) (by decide) rfl ?_
  intro p e s m args below meth c s₁ B hml hv
  obtain ⟨rfl, hsz, hP, hK, hD0, hZ⟩ := hv
  have hx := B.exec
  have hb := B.bytes
  have hr := B.returns
  have hts := atoms_spec (ws := (wsOf yX12_judgeQuery cX12_judgeQuery 9 none)) B.pre
  have hown : s.vm.findClass RX12 = some m.cls := findClass_of_methodNamed B.named
  have hlocks := B.notSynchronized
  subst hsz
  have hD := hD0.self (sz := s.heap.size)
  generalize hAe : va_A (mW cB cI cJ cZ h0 a cs) s.heap.size = A at hD hZ ⊢
  have hA : ∀ q : Nat, s.heap.size ≤ q → A q := fun q h => by rw [← hAe]; exact Or.inr h
  have hS : va_S A s.heap s.heap [] := va_S.rf
  have hl := lv_entry ([.ref h0, .int x1]) (n := 9) (Nat.le_of_ble_eq_true rfl)
  rw [lg_entry_eq]
  generalize (lg_sl ([.ref h0, .int x1]) ++ List.replicate (9 - (lg_sl ([.ref h0, .int x1])).length) Slot.unset).toArray = ls at hl ⊢
  have hl : lv_has ls 9 [(0, .ref h0), (1, .int x1)] := hl
  have B_308 : ∀ (cs1 : RS) , m_judgeQuery_b308 F T cs1 = some cs9 → ∀ (H : Heap) (locs : List Loc) (ls : Array Slot), va_P (dC, dI) vwCl (mW cB cI cJ cZ h0 a cs1) H → va_D A (mW cB cI cJ cZ h0 a cs1) → va_S A s.heap H locs → lv_has ls 9 [] → W p l e (headSpec (wsOf yX12_judgeQuery cX12_judgeQuery 9 none) ({ frames := n + 1 + 310, cells := 0, slots := 0, locals := 60 * (n + 1 + 310) } : Room)).room s m ([.ref h0, .int x1] : List Value).toArray below meth c H locs 0 0 (MQ below (va_Qv (fun (_ : Unit) => True) (fun _ t_ => va_P (dC, dI) vwCl (mW cB cI cJ cZ h0 a cs9) t_.heap ∧ va_D A (mW cB cI cJ cZ h0 a cs9)) A) ([.ref h0, .int x1] : List Value).toArray s 0 0 A) (F0 m 308 ls []) := by
    intro cs1  h H locs ls hP hD hS hl
    unfold m_judgeQuery_b308 at h
    have e1 := Option.some.inj h
    rw [e1] at hP hD
    exact W.vret hx hb hr (fun t_ ht hW => ⟨⟨(), rfl, trivial, by rw [ht]; exact hP, hD⟩, hS.F ht⟩) hS.2.2 dX12_judgeQuery_308
  have L_258 : ∀ (lf_258 : Nat), ∀ (cs1 : RS) (u1 : Int32) (u2 : Int32) (u4 : Int32), m_judgeQuery_L258 F T lf_258 cs1 u1 u2 u4 = some cs9 → ∀ (H : Heap) (locs : List Loc) (ls : Array Slot), va_P (dC, dI) vwCl (mW cB cI cJ cZ h0 a cs1) H → va_D A (mW cB cI cJ cZ h0 a cs1) → va_S A s.heap H locs → lv_has ls 9 [(0, .ref h0), (1, .int u1), (2, .int u2), (4, .int u4)] → W p l e (headSpec (wsOf yX12_judgeQuery cX12_judgeQuery 9 none) ({ frames := n + 1 + 310, cells := 0, slots := 0, locals := 60 * (n + 1 + 310) } : Room)).room s m ([.ref h0, .int x1] : List Value).toArray below meth c H locs 0 0 (MQ below (va_Qv (fun (_ : Unit) => True) (fun _ t_ => va_P (dC, dI) vwCl (mW cB cI cJ cZ h0 a cs9) t_.heap ∧ va_D A (mW cB cI cJ cZ h0 a cs9)) A) ([.ref h0, .int x1] : List Value).toArray s 0 0 A) (F0 m 258 ls []) := by
    intro lf_258
    induction lf_258 with
    | zero => intro cs1 u1 u2 u4 h; cases (show (none : Option RS) = _ from h)
    | succ lf_258 ih_258 =>
      intro cs1 u1 u2 u4 h H locs ls hP hD hS hl
      rw [m_judgeQuery_L258] at h
      refine lv_iload hx hb dX12_judgeQuery_258 (lv_at hl 3 rfl) ?_
      refine lv_aload_n hx hb dX12_judgeQuery_260 rfl (lv_at hl 0 rfl) ?_
      refine fg_64 hx hb hts hown hK hP dX12_judgeQuery_261 ?_
      refine lv_iload_n hx hb dX12_judgeQuery_264 rfl (lv_at hl 1 rfl) ?_
      obtain ⟨v_1, hv_1, h⟩ := ob h
      refine ag_64 hx hb hK hP hv_1 dX12_judgeQuery_265 ?_
      refine lv_icmp_ge (tgt := 308) hx hb dX12_judgeQuery_266 (by decide) (fun c_2 => ?_) (fun c_2 => ?_)
      · skip
        replace h := (if_pos c_2).symm.trans h
        exact B_308 cs1 h _ _ _ hP hD hS (lv_sub hl [] rfl)
      · skip
        replace h := (if_neg c_2).symm.trans h
        refine lv_aload_n hx hb dX12_judgeQuery_269 rfl (lv_at hl 0 rfl) ?_
        refine fg_21 hx hb hts hown hK hP dX12_judgeQuery_270 ?_
        refine lv_if_eq (tgt := 308) hx hb dX12_judgeQuery_273 (by decide) (fun c_3 => ?_) (fun c_3 => ?_)
        · skip
          replace h := (if_pos c_3).symm.trans h
          exact B_308 cs1 h _ _ _ hP hD hS (lv_sub hl [] rfl)
        · skip
          replace h := (if_neg c_3).symm.trans h
          refine lv_aload_n hx hb dX12_judgeQuery_276 rfl (lv_at hl 0 rfl) ?_
          refine lv_iconst (v := 2) hx hb dX12_judgeQuery_277 (by decide) ?_
          refine fp_76 hx hb hts hown hK hP hD hS dX12_judgeQuery_278 (fun H locs hP hD hS => ?_)
          refine lv_aload_n hx hb dX12_judgeQuery_281 rfl (lv_at hl 0 rfl) ?_
          refine lv_iload_n hx hb dX12_judgeQuery_282 rfl (lv_at hl 2 rfl) ?_
          refine fp_77 hx hb hts hown hK hP hD hS dX12_judgeQuery_283 (fun H locs hP hD hS => ?_)
          refine lv_aload_n hx hb dX12_judgeQuery_286 rfl (lv_at hl 0 rfl) ?_
          refine lv_aload_n hx hb dX12_judgeQuery_287 rfl (lv_at hl 0 rfl) ?_
          refine fg_66 hx hb hts hown hK hP dX12_judgeQuery_288 ?_
          refine lv_bipush (v := 8) hx hb dX12_judgeQuery_291 (by decide) ?_
          refine lv_iload_n hx hb dX12_judgeQuery_293 rfl (lv_at hl 1 rfl) ?_
          refine lv_imul hx hb dX12_judgeQuery_294 ?_
          refine lv_iload hx hb dX12_judgeQuery_295 (lv_at hl 3 rfl) ?_
          refine lv_iadd hx hb dX12_judgeQuery_297 ?_
          obtain ⟨v_4, hv_4, h⟩ := ob h
          refine ag_66 hx hb hK hP hv_4 dX12_judgeQuery_298 ?_
          obtain ⟨cs_5, hv_5, h⟩ := ob h
          refine calV (As := [.int v_4]) hx hb hml hts hown hK hP hD hS hA hZ (s_judge l dC dI cB cI cJ cZ h0 a K V fz F 300 (setF (setF cs1 76 2) 77 u2) v_4 cs_5 hv_5) (cw_judge hts (fr := 309) (by show 309 + 1 ≤ n + 1 + 310; omega) (by show 8 + (6 + 11) + 60 * (309) ≤ 60 * (n + 1 + 310); omega)) rfl hl.1 (Nat.le_of_ble_eq_true rfl) ⟨Nat.zero_le _, Nat.zero_le _⟩ dX12_judgeQuery_299 (fun H locs hP hD hS => ?_)
          refine lv_iinc (v := u4 + 1) (lv' := [(4, .int (u4 + 1)), (0, .ref h0), (1, .int u1), (2, .int u2)]) hx hb dX12_judgeQuery_302 hl (k := 3) rfl rfl (by decide) rfl (fun ls hl => ?_)
          refine lv_goto (tgt := 258) hx hb dX12_judgeQuery_305 (by decide) ?_
          exact ih_258 cs_5 u1 u2 (u4 + 1) h _ _ _ hP hD hS (lv_sub hl [1, 2, 3, 0] rfl)
  have B_227 : ∀ (cs1 : RS) (u1 : Int32) (u2 : Int32) (u3 : Int32), m_judgeQuery_b227 F T cs1 u1 u2 u3 = some cs9 → ∀ (H : Heap) (locs : List Loc) (ls : Array Slot), va_P (dC, dI) vwCl (mW cB cI cJ cZ h0 a cs1) H → va_D A (mW cB cI cJ cZ h0 a cs1) → va_S A s.heap H locs → lv_has ls 9 [(0, .ref h0), (1, .int u1), (2, .int u2), (3, .int u3)] → W p l e (headSpec (wsOf yX12_judgeQuery cX12_judgeQuery 9 none) ({ frames := n + 1 + 310, cells := 0, slots := 0, locals := 60 * (n + 1 + 310) } : Room)).room s m ([.ref h0, .int x1] : List Value).toArray below meth c H locs 0 0 (MQ below (va_Qv (fun (_ : Unit) => True) (fun _ t_ => va_P (dC, dI) vwCl (mW cB cI cJ cZ h0 a cs9) t_.heap ∧ va_D A (mW cB cI cJ cZ h0 a cs9)) A) ([.ref h0, .int x1] : List Value).toArray s 0 0 A) (F0 m 227 ls []) := by
    intro cs1 u1 u2 u3 h H locs ls hP hD hS hl
    unfold m_judgeQuery_b227 at h
    refine lv_aload_n hx hb dX12_judgeQuery_227 rfl (lv_at hl 0 rfl) ?_
    refine fg_21 hx hb hts hown hK hP dX12_judgeQuery_228 ?_
    refine lv_if_eq (tgt := 308) hx hb dX12_judgeQuery_231 (by decide) (fun c_6 => ?_) (fun c_6 => ?_)
    · skip
      replace h := (if_pos c_6).symm.trans h
      exact B_308 cs1 h _ _ _ hP hD hS (lv_sub hl [] rfl)
    · skip
      replace h := (if_neg c_6).symm.trans h
      refine lv_aload_n hx hb dX12_judgeQuery_234 rfl (lv_at hl 0 rfl) ?_
      refine fg_65 hx hb hts hown hK hP dX12_judgeQuery_235 ?_
      refine lv_iload_n hx hb dX12_judgeQuery_238 rfl (lv_at hl 1 rfl) ?_
      obtain ⟨v_7, hv_7, h⟩ := ob h
      refine ag_65 hx hb hK hP hv_7 dX12_judgeQuery_239 ?_
      refine lv_iconst (v := (-1)) hx hb dX12_judgeQuery_240 (by decide) ?_
      refine lv_icmp_eq (tgt := 308) hx hb dX12_judgeQuery_241 (by decide) (fun c_8 => ?_) (fun c_8 => ?_)
      · skip
        replace h := (if_pos c_8).symm.trans h
        exact B_308 cs1 h _ _ _ hP hD hS (lv_sub hl [] rfl)
      · skip
        replace h := (if_neg c_8).symm.trans h
        refine lv_aload_n hx hb dX12_judgeQuery_244 rfl (lv_at hl 0 rfl) ?_
        refine lv_iload_n hx hb dX12_judgeQuery_245 rfl (lv_at hl 3 rfl) ?_
        refine lv_aload_n hx hb dX12_judgeQuery_246 rfl (lv_at hl 0 rfl) ?_
        refine fg_65 hx hb hts hown hK hP dX12_judgeQuery_247 ?_
        refine lv_iload_n hx hb dX12_judgeQuery_250 rfl (lv_at hl 1 rfl) ?_
        obtain ⟨v_9, hv_9, h⟩ := ob h
        refine ag_65 hx hb hK hP hv_9 dX12_judgeQuery_251 ?_
        obtain ⟨cs_10, hv_10, h⟩ := ob h
        refine calV (As := [.int u3, .int v_9]) hx hb hml hts hown hK hP hD hS hA hZ (s_bounded l dC dI cB cI cJ cZ h0 a K V fz F cs1 u3 v_9 cs_10 hv_10) (cw_bounded hts (fr := 1) (by show 1 + 1 ≤ n + 1 + 310; omega) (by show 8 + (3 + 11) + 60 * (1) ≤ 60 * (n + 1 + 310); omega)) rfl hl.1 (Nat.le_of_ble_eq_true rfl) ⟨Nat.zero_le _, Nat.zero_le _⟩ dX12_judgeQuery_252 (fun H locs hP hD hS => ?_)
        refine lv_iconst (v := 0) hx hb dX12_judgeQuery_255 (by decide) ?_
        refine lv_istore (lv' := [(4, .int 0), (0, .ref h0), (1, .int u1), (2, .int u2), (3, .int u3)]) hx hb dX12_judgeQuery_256 hl (by decide) rfl (fun ls hl => ?_)
        exact L_258 F cs_10 u1 u2 0 h _ _ _ hP hD hS (lv_sub hl [1, 2, 3, 0] rfl)
  have L_14 : ∀ (lf_14 : Nat), ∀ (cs1 : RS) (u1 : Int32) (u2 : Int32) (u3 : Int32) (u4 : Int32), m_judgeQuery_L14 F T lf_14 cs1 u1 u2 u3 u4 = some cs9 → ∀ (H : Heap) (locs : List Loc) (ls : Array Slot), va_P (dC, dI) vwCl (mW cB cI cJ cZ h0 a cs1) H → va_D A (mW cB cI cJ cZ h0 a cs1) → va_S A s.heap H locs → lv_has ls 9 [(0, .ref h0), (1, .int u1), (2, .int u2), (3, .int u3), (4, .int u4)] → W p l e (headSpec (wsOf yX12_judgeQuery cX12_judgeQuery 9 none) ({ frames := n + 1 + 310, cells := 0, slots := 0, locals := 60 * (n + 1 + 310) } : Room)).room s m ([.ref h0, .int x1] : List Value).toArray below meth c H locs 0 0 (MQ below (va_Qv (fun (_ : Unit) => True) (fun _ t_ => va_P (dC, dI) vwCl (mW cB cI cJ cZ h0 a cs9) t_.heap ∧ va_D A (mW cB cI cJ cZ h0 a cs9)) A) ([.ref h0, .int x1] : List Value).toArray s 0 0 A) (F0 m 14 ls []) := by
    intro lf_14
    induction lf_14 with
    | zero => intro cs1 u1 u2 u3 u4 h; cases (show (none : Option RS) = _ from h)
    | succ lf_14 ih_14 =>
      have B_221 : ∀ (cs1 : RS) (u1 : Int32) (u2 : Int32) (u3 : Int32) (u4 : Int32), m_judgeQuery_b221 F T (m_judgeQuery_L14 F T lf_14) cs1 u1 u2 u3 u4 = some cs9 → ∀ (H : Heap) (locs : List Loc) (ls : Array Slot), va_P (dC, dI) vwCl (mW cB cI cJ cZ h0 a cs1) H → va_D A (mW cB cI cJ cZ h0 a cs1) → va_S A s.heap H locs → lv_has ls 9 [(0, .ref h0), (1, .int u1), (2, .int u2), (3, .int u3), (4, .int u4)] → W p l e (headSpec (wsOf yX12_judgeQuery cX12_judgeQuery 9 none) ({ frames := n + 1 + 310, cells := 0, slots := 0, locals := 60 * (n + 1 + 310) } : Room)).room s m ([.ref h0, .int x1] : List Value).toArray below meth c H locs 0 0 (MQ below (va_Qv (fun (_ : Unit) => True) (fun _ t_ => va_P (dC, dI) vwCl (mW cB cI cJ cZ h0 a cs9) t_.heap ∧ va_D A (mW cB cI cJ cZ h0 a cs9)) A) ([.ref h0, .int x1] : List Value).toArray s 0 0 A) (F0 m 221 ls []) := by
        intro cs1 u1 u2 u3 u4 h H locs ls hP hD hS hl
        unfold m_judgeQuery_b221 at h
        refine lv_iinc (v := u4 + 1) (lv' := [(4, .int (u4 + 1)), (0, .ref h0), (1, .int u1), (2, .int u2), (3, .int u3)]) hx hb dX12_judgeQuery_221 hl (k := 4) rfl rfl (by decide) rfl (fun ls hl => ?_)
        refine lv_goto (tgt := 14) hx hb dX12_judgeQuery_224 (by decide) ?_
        exact ih_14 cs1 u1 u2 u3 (u4 + 1) h _ _ _ hP hD hS (lv_sub hl [1, 2, 3, 4, 0] rfl)
      have B_208 : ∀ (cs1 : RS) (u1 : Int32) (u2 : Int32) (u3 : Int32) (u4 : Int32) (u6 : Int32) (u7 : Int32), m_judgeQuery_b208 F T (m_judgeQuery_L14 F T lf_14) cs1 u1 u2 u3 u4 u6 u7 = some cs9 → ∀ (H : Heap) (locs : List Loc) (ls : Array Slot), va_P (dC, dI) vwCl (mW cB cI cJ cZ h0 a cs1) H → va_D A (mW cB cI cJ cZ h0 a cs1) → va_S A s.heap H locs → lv_has ls 9 [(0, .ref h0), (1, .int u1), (2, .int u2), (3, .int u3), (4, .int u4), (6, .int u6), (7, .int u7)] → W p l e (headSpec (wsOf yX12_judgeQuery cX12_judgeQuery 9 none) ({ frames := n + 1 + 310, cells := 0, slots := 0, locals := 60 * (n + 1 + 310) } : Room)).room s m ([.ref h0, .int x1] : List Value).toArray below meth c H locs 0 0 (MQ below (va_Qv (fun (_ : Unit) => True) (fun _ t_ => va_P (dC, dI) vwCl (mW cB cI cJ cZ h0 a cs9) t_.heap ∧ va_D A (mW cB cI cJ cZ h0 a cs9)) A) ([.ref h0, .int x1] : List Value).toArray s 0 0 A) (F0 m 208 ls []) := by
        intro cs1 u1 u2 u3 u4 u6 u7 h H locs ls hP hD hS hl
        unfold m_judgeQuery_b208 at h
        refine lv_iload hx hb dX12_judgeQuery_208 (lv_at hl 6 rfl) ?_
        refine lv_if_ne (tgt := 221) hx hb dX12_judgeQuery_210 (by decide) (fun c_11 => ?_) (fun c_11 => ?_)
        · skip
          replace h := (if_neg c_11).symm.trans h
          exact B_221 cs1 u1 u2 u3 u4 h _ _ _ hP hD hS (lv_sub hl [0, 1, 2, 3, 4] rfl)
        · skip
          replace h := (if_pos c_11).symm.trans h
          refine lv_aload_n hx hb dX12_judgeQuery_213 rfl (lv_at hl 0 rfl) ?_
          refine lv_bipush (v := 6) hx hb dX12_judgeQuery_214 (by decide) ?_
          refine lv_iload hx hb dX12_judgeQuery_216 (lv_at hl 5 rfl) ?_
          obtain ⟨cs_12, hv_12, h⟩ := ob h
          refine calV (As := [.int 6, .int u6]) hx hb hml hts hown hK hP hD hS hA hZ (s_tell l dC dI cB cI cJ cZ h0 a K V fz F cs1 6 u6 cs_12 hv_12) (cw_tell hts (fr := 0) (by show 0 + 1 ≤ n + 1 + 310; omega) (by show 8 + (3 + 11) + 60 * (0) ≤ 60 * (n + 1 + 310); omega)) rfl hl.1 (Nat.le_of_ble_eq_true rfl) ⟨Nat.zero_le _, Nat.zero_le _⟩ dX12_judgeQuery_218 (fun H locs hP hD hS => ?_)
          exact B_221 cs_12 u1 u2 u3 u4 h _ _ _ hP hD hS (lv_sub hl [0, 1, 2, 3, 4] rfl)
      have L_150 : ∀ (lf_150 : Nat), ∀ (cs1 : RS) (u1 : Int32) (u2 : Int32) (u3 : Int32) (u4 : Int32) (u5 : Int32) (u6 : Int32) (u7 : Int32) (u8 : Int32), m_judgeQuery_L150 F T (m_judgeQuery_L14 F T lf_14) lf_150 cs1 u1 u2 u3 u4 u5 u6 u7 u8 = some cs9 → ∀ (H : Heap) (locs : List Loc) (ls : Array Slot), va_P (dC, dI) vwCl (mW cB cI cJ cZ h0 a cs1) H → va_D A (mW cB cI cJ cZ h0 a cs1) → va_S A s.heap H locs → lv_has ls 9 [(0, .ref h0), (1, .int u1), (2, .int u2), (3, .int u3), (4, .int u4), (5, .int u5), (6, .int u6), (7, .int u7), (8, .int u8)] → W p l e (headSpec (wsOf yX12_judgeQuery cX12_judgeQuery 9 none) ({ frames := n + 1 + 310, cells := 0, slots := 0, locals := 60 * (n + 1 + 310) } : Room)).room s m ([.ref h0, .int x1] : List Value).toArray below meth c H locs 0 0 (MQ below (va_Qv (fun (_ : Unit) => True) (fun _ t_ => va_P (dC, dI) vwCl (mW cB cI cJ cZ h0 a cs9) t_.heap ∧ va_D A (mW cB cI cJ cZ h0 a cs9)) A) ([.ref h0, .int x1] : List Value).toArray s 0 0 A) (F0 m 150 ls []) := by
        intro lf_150
        induction lf_150 with
        | zero => intro cs1 u1 u2 u3 u4 u5 u6 u7 u8 h; cases (show (none : Option RS) = _ from h)
        | succ lf_150 ih_150 =>
          have B_200 : ∀ (cs1 : RS) (u1 : Int32) (u2 : Int32) (u3 : Int32) (u4 : Int32) (u5 : Int32) (u6 : Int32) (u8 : Int32) (y0 : Int32), m_judgeQuery_b200 F T (m_judgeQuery_L14 F T lf_14) (m_judgeQuery_L150 F T (m_judgeQuery_L14 F T lf_14) lf_150) cs1 u1 u2 u3 u4 u5 u6 u8 y0 = some cs9 → ∀ (H : Heap) (locs : List Loc) (ls : Array Slot), va_P (dC, dI) vwCl (mW cB cI cJ cZ h0 a cs1) H → va_D A (mW cB cI cJ cZ h0 a cs1) → va_S A s.heap H locs → lv_has ls 9 [(0, .ref h0), (1, .int u1), (2, .int u2), (3, .int u3), (4, .int u4), (5, .int u5), (6, .int u6), (8, .int u8)] → W p l e (headSpec (wsOf yX12_judgeQuery cX12_judgeQuery 9 none) ({ frames := n + 1 + 310, cells := 0, slots := 0, locals := 60 * (n + 1 + 310) } : Room)).room s m ([.ref h0, .int x1] : List Value).toArray below meth c H locs 0 0 (MQ below (va_Qv (fun (_ : Unit) => True) (fun _ t_ => va_P (dC, dI) vwCl (mW cB cI cJ cZ h0 a cs9) t_.heap ∧ va_D A (mW cB cI cJ cZ h0 a cs9)) A) ([.ref h0, .int x1] : List Value).toArray s 0 0 A) (F0 m 200 ls [.int y0]) := by
            intro cs1 u1 u2 u3 u4 u5 u6 u8 y0 h H locs ls hP hD hS hl
            unfold m_judgeQuery_b200 at h
            refine lv_istore (lv' := [(7, .int y0), (0, .ref h0), (1, .int u1), (2, .int u2), (3, .int u3), (4, .int u4), (5, .int u5), (6, .int u6), (8, .int u8)]) hx hb dX12_judgeQuery_200 hl (by decide) rfl (fun ls hl => ?_)
            refine lv_iinc (v := u8 + 1) (lv' := [(8, .int (u8 + 1)), (7, .int y0), (0, .ref h0), (1, .int u1), (2, .int u2), (3, .int u3), (4, .int u4), (5, .int u5), (6, .int u6)]) hx hb dX12_judgeQuery_202 hl (k := 8) rfl rfl (by decide) rfl (fun ls hl => ?_)
            refine lv_goto (tgt := 150) hx hb dX12_judgeQuery_205 (by decide) ?_
            exact ih_150 cs1 u1 u2 u3 u4 u5 u6 y0 (u8 + 1) h _ _ _ hP hD hS (lv_sub hl [2, 3, 4, 5, 6, 7, 8, 1, 0] rfl)
          intro cs1 u1 u2 u3 u4 u5 u6 u7 u8 h H locs ls hP hD hS hl
          rw [m_judgeQuery_L150] at h
          refine lv_iload hx hb dX12_judgeQuery_150 (lv_at hl 7 rfl) ?_
          refine lv_if_eq (tgt := 208) hx hb dX12_judgeQuery_152 (by decide) (fun c_13 => ?_) (fun c_13 => ?_)
          · skip
            replace h := (if_pos c_13).symm.trans h
            exact B_208 cs1 u1 u2 u3 u4 u6 u7 h _ _ _ hP hD hS (lv_sub hl [0, 1, 2, 3, 4, 6, 7] rfl)
          · skip
            replace h := (if_neg c_13).symm.trans h
            refine lv_iload hx hb dX12_judgeQuery_155 (lv_at hl 8 rfl) ?_
            refine lv_aload_n hx hb dX12_judgeQuery_157 rfl (lv_at hl 0 rfl) ?_
            refine fg_36 hx hb hts hown hK hP dX12_judgeQuery_158 ?_
            refine lv_iload hx hb dX12_judgeQuery_161 (lv_at hl 5 rfl) ?_
            obtain ⟨v_14, hv_14, h⟩ := ob h
            refine ag_36 hx hb hK hP hv_14 dX12_judgeQuery_163 ?_
            refine lv_icmp_ge (tgt := 208) hx hb dX12_judgeQuery_164 (by decide) (fun c_15 => ?_) (fun c_15 => ?_)
            · skip
              replace h := (if_pos c_15).symm.trans h
              exact B_208 cs1 u1 u2 u3 u4 u6 u7 h _ _ _ hP hD hS (lv_sub hl [0, 1, 2, 3, 4, 6, 7] rfl)
            · skip
              replace h := (if_neg c_15).symm.trans h
              refine lv_aload_n hx hb dX12_judgeQuery_167 rfl (lv_at hl 0 rfl) ?_
              refine fg_46 hx hb hts hown hK hP dX12_judgeQuery_168 ?_
              refine lv_bipush (v := 8) hx hb dX12_judgeQuery_171 (by decide) ?_
              refine lv_iload hx hb dX12_judgeQuery_173 (lv_at hl 5 rfl) ?_
              refine lv_imul hx hb dX12_judgeQuery_175 ?_
              refine lv_iload hx hb dX12_judgeQuery_176 (lv_at hl 8 rfl) ?_
              refine lv_iadd hx hb dX12_judgeQuery_178 ?_
              obtain ⟨v_16, hv_16, h⟩ := ob h
              refine ag_46 hx hb hK hP hv_16 dX12_judgeQuery_179 ?_
              refine lv_aload_n hx hb dX12_judgeQuery_180 rfl (lv_at hl 0 rfl) ?_
              refine fg_46 hx hb hts hown hK hP dX12_judgeQuery_181 ?_
              refine lv_bipush (v := 8) hx hb dX12_judgeQuery_184 (by decide) ?_
              refine lv_iload_n hx hb dX12_judgeQuery_186 rfl (lv_at hl 2 rfl) ?_
              refine lv_imul hx hb dX12_judgeQuery_187 ?_
              refine lv_iload hx hb dX12_judgeQuery_188 (lv_at hl 8 rfl) ?_
              refine lv_iadd hx hb dX12_judgeQuery_190 ?_
              obtain ⟨v_17, hv_17, h⟩ := ob h
              refine ag_46 hx hb hK hP hv_17 dX12_judgeQuery_191 ?_
              refine lv_icmp_ne (tgt := 199) hx hb dX12_judgeQuery_192 (by decide) (fun c_18 => ?_) (fun c_18 => ?_)
              · skip
                replace h := (if_neg c_18).symm.trans h
                refine lv_iconst (v := 0) hx hb dX12_judgeQuery_199 (by decide) ?_
                exact B_200 cs1 u1 u2 u3 u4 u5 u6 u8 0 h _ _ _ hP hD hS (lv_sub hl [0, 1, 2, 3, 4, 5, 6, 8] rfl)
              · skip
                replace h := (if_pos c_18).symm.trans h
                refine lv_iconst (v := 1) hx hb dX12_judgeQuery_195 (by decide) ?_
                refine lv_goto (tgt := 200) hx hb dX12_judgeQuery_196 (by decide) ?_
                exact B_200 cs1 u1 u2 u3 u4 u5 u6 u8 1 h _ _ _ hP hD hS (lv_sub hl [0, 1, 2, 3, 4, 5, 6, 8] rfl)
      have B_145 : ∀ (cs1 : RS) (u1 : Int32) (u2 : Int32) (u3 : Int32) (u4 : Int32) (u5 : Int32) (u6 : Int32) (y0 : Int32), m_judgeQuery_b145 F T (m_judgeQuery_L14 F T lf_14) cs1 u1 u2 u3 u4 u5 u6 y0 = some cs9 → ∀ (H : Heap) (locs : List Loc) (ls : Array Slot), va_P (dC, dI) vwCl (mW cB cI cJ cZ h0 a cs1) H → va_D A (mW cB cI cJ cZ h0 a cs1) → va_S A s.heap H locs → lv_has ls 9 [(0, .ref h0), (1, .int u1), (2, .int u2), (3, .int u3), (4, .int u4), (5, .int u5), (6, .int u6)] → W p l e (headSpec (wsOf yX12_judgeQuery cX12_judgeQuery 9 none) ({ frames := n + 1 + 310, cells := 0, slots := 0, locals := 60 * (n + 1 + 310) } : Room)).room s m ([.ref h0, .int x1] : List Value).toArray below meth c H locs 0 0 (MQ below (va_Qv (fun (_ : Unit) => True) (fun _ t_ => va_P (dC, dI) vwCl (mW cB cI cJ cZ h0 a cs9) t_.heap ∧ va_D A (mW cB cI cJ cZ h0 a cs9)) A) ([.ref h0, .int x1] : List Value).toArray s 0 0 A) (F0 m 145 ls [.int y0]) := by
        intro cs1 u1 u2 u3 u4 u5 u6 y0 h H locs ls hP hD hS hl
        unfold m_judgeQuery_b145 at h
        refine lv_istore (lv' := [(7, .int y0), (0, .ref h0), (1, .int u1), (2, .int u2), (3, .int u3), (4, .int u4), (5, .int u5), (6, .int u6)]) hx hb dX12_judgeQuery_145 hl (by decide) rfl (fun ls hl => ?_)
        refine lv_iconst (v := 0) hx hb dX12_judgeQuery_147 (by decide) ?_
        refine lv_istore (lv' := [(8, .int 0), (7, .int y0), (0, .ref h0), (1, .int u1), (2, .int u2), (3, .int u3), (4, .int u4), (5, .int u5), (6, .int u6)]) hx hb dX12_judgeQuery_148 hl (by decide) rfl (fun ls hl => ?_)
        exact L_150 F cs1 u1 u2 u3 u4 u5 u6 y0 0 h _ _ _ hP hD hS (lv_sub hl [2, 3, 4, 5, 6, 7, 8, 1, 0] rfl)
      have B_124 : ∀ (cs1 : RS) (u1 : Int32) (u2 : Int32) (u3 : Int32) (u4 : Int32) (u5 : Int32) (u6 : Int32), m_judgeQuery_b124 F T (m_judgeQuery_L14 F T lf_14) cs1 u1 u2 u3 u4 u5 u6 = some cs9 → ∀ (H : Heap) (locs : List Loc) (ls : Array Slot), va_P (dC, dI) vwCl (mW cB cI cJ cZ h0 a cs1) H → va_D A (mW cB cI cJ cZ h0 a cs1) → va_S A s.heap H locs → lv_has ls 9 [(0, .ref h0), (1, .int u1), (2, .int u2), (3, .int u3), (4, .int u4), (5, .int u5), (6, .int u6)] → W p l e (headSpec (wsOf yX12_judgeQuery cX12_judgeQuery 9 none) ({ frames := n + 1 + 310, cells := 0, slots := 0, locals := 60 * (n + 1 + 310) } : Room)).room s m ([.ref h0, .int x1] : List Value).toArray below meth c H locs 0 0 (MQ below (va_Qv (fun (_ : Unit) => True) (fun _ t_ => va_P (dC, dI) vwCl (mW cB cI cJ cZ h0 a cs9) t_.heap ∧ va_D A (mW cB cI cJ cZ h0 a cs9)) A) ([.ref h0, .int x1] : List Value).toArray s 0 0 A) (F0 m 124 ls []) := by
        intro cs1 u1 u2 u3 u4 u5 u6 h H locs ls hP hD hS hl
        unfold m_judgeQuery_b124 at h
        refine lv_aload_n hx hb dX12_judgeQuery_124 rfl (lv_at hl 0 rfl) ?_
        refine fg_36 hx hb hts hown hK hP dX12_judgeQuery_125 ?_
        refine lv_iload hx hb dX12_judgeQuery_128 (lv_at hl 5 rfl) ?_
        obtain ⟨v_19, hv_19, h⟩ := ob h
        refine ag_36 hx hb hK hP hv_19 dX12_judgeQuery_130 ?_
        refine lv_aload_n hx hb dX12_judgeQuery_131 rfl (lv_at hl 0 rfl) ?_
        refine fg_36 hx hb hts hown hK hP dX12_judgeQuery_132 ?_
        refine lv_iload_n hx hb dX12_judgeQuery_135 rfl (lv_at hl 2 rfl) ?_
        obtain ⟨v_20, hv_20, h⟩ := ob h
        refine ag_36 hx hb hK hP hv_20 dX12_judgeQuery_136 ?_
        refine lv_icmp_ne (tgt := 144) hx hb dX12_judgeQuery_137 (by decide) (fun c_21 => ?_) (fun c_21 => ?_)
        · skip
          replace h := (if_neg c_21).symm.trans h
          refine lv_iconst (v := 0) hx hb dX12_judgeQuery_144 (by decide) ?_
          exact B_145 cs1 u1 u2 u3 u4 u5 u6 0 h _ _ _ hP hD hS (lv_sub hl [0, 1, 2, 3, 4, 5, 6] rfl)
        · skip
          replace h := (if_pos c_21).symm.trans h
          refine lv_iconst (v := 1) hx hb dX12_judgeQuery_140 (by decide) ?_
          refine lv_goto (tgt := 145) hx hb dX12_judgeQuery_141 (by decide) ?_
          exact B_145 cs1 u1 u2 u3 u4 u5 u6 1 h _ _ _ hP hD hS (lv_sub hl [0, 1, 2, 3, 4, 5, 6] rfl)
      have B_76 : ∀ (cs1 : RS) (u1 : Int32) (u2 : Int32) (u4 : Int32) (u5 : Int32) (y0 : Int32), m_judgeQuery_b76 F T (m_judgeQuery_L14 F T lf_14) cs1 u1 u2 u4 u5 y0 = some cs9 → ∀ (H : Heap) (locs : List Loc) (ls : Array Slot), va_P (dC, dI) vwCl (mW cB cI cJ cZ h0 a cs1) H → va_D A (mW cB cI cJ cZ h0 a cs1) → va_S A s.heap H locs → lv_has ls 9 [(0, .ref h0), (1, .int u1), (2, .int u2), (4, .int u4), (5, .int u5)] → W p l e (headSpec (wsOf yX12_judgeQuery cX12_judgeQuery 9 none) ({ frames := n + 1 + 310, cells := 0, slots := 0, locals := 60 * (n + 1 + 310) } : Room)).room s m ([.ref h0, .int x1] : List Value).toArray below meth c H locs 0 0 (MQ below (va_Qv (fun (_ : Unit) => True) (fun _ t_ => va_P (dC, dI) vwCl (mW cB cI cJ cZ h0 a cs9) t_.heap ∧ va_D A (mW cB cI cJ cZ h0 a cs9)) A) ([.ref h0, .int x1] : List Value).toArray s 0 0 A) (F0 m 76 ls [.int y0]) := by
        intro cs1 u1 u2 u4 u5 y0 h H locs ls hP hD hS hl
        unfold m_judgeQuery_b76 at h
        refine lv_istore_n (lv' := [(3, .int y0), (0, .ref h0), (1, .int u1), (2, .int u2), (4, .int u4), (5, .int u5)]) hx hb dX12_judgeQuery_76 rfl hl (by decide) rfl (fun ls hl => ?_)
        refine lv_iload hx hb dX12_judgeQuery_77 (lv_at hl 4 rfl) ?_
        refine lv_if_le (tgt := 221) hx hb dX12_judgeQuery_79 (by decide) (fun c_22 => ?_) (fun c_22 => ?_)
        · skip
          replace h := (if_pos c_22).symm.trans h
          exact B_221 cs1 u1 u2 y0 u4 h _ _ _ hP hD hS (lv_sub hl [1, 2, 3, 0, 4] rfl)
        · skip
          replace h := (if_neg c_22).symm.trans h
          refine lv_aload_n hx hb dX12_judgeQuery_82 rfl (lv_at hl 1 rfl) ?_
          refine fg_21 hx hb hts hown hK hP dX12_judgeQuery_83 ?_
          refine lv_if_eq (tgt := 221) hx hb dX12_judgeQuery_86 (by decide) (fun c_23 => ?_) (fun c_23 => ?_)
          · skip
            replace h := (if_pos c_23).symm.trans h
            exact B_221 cs1 u1 u2 y0 u4 h _ _ _ hP hD hS (lv_sub hl [1, 2, 3, 0, 4] rfl)
          · skip
            replace h := (if_neg c_23).symm.trans h
            refine lv_aload_n hx hb dX12_judgeQuery_89 rfl (lv_at hl 1 rfl) ?_
            refine fg_63 hx hb hts hown hK hP dX12_judgeQuery_90 ?_
            refine lv_iconst (v := 5) hx hb dX12_judgeQuery_93 (by decide) ?_
            refine lv_iload_n hx hb dX12_judgeQuery_94 rfl (lv_at hl 2 rfl) ?_
            refine lv_imul hx hb dX12_judgeQuery_95 ?_
            refine lv_iload hx hb dX12_judgeQuery_96 (lv_at hl 4 rfl) ?_
            refine lv_iadd hx hb dX12_judgeQuery_98 ?_
            obtain ⟨v_24, hv_24, h⟩ := ob h
            refine ag_63 hx hb hK hP hv_24 dX12_judgeQuery_99 ?_
            refine lv_istore (lv' := [(6, .int v_24), (3, .int y0), (0, .ref h0), (1, .int u1), (2, .int u2), (4, .int u4), (5, .int u5)]) hx hb dX12_judgeQuery_100 hl (by decide) rfl (fun ls hl => ?_)
            refine lv_aload_n hx hb dX12_judgeQuery_102 rfl (lv_at hl 2 rfl) ?_
            refine fg_62 hx hb hts hown hK hP dX12_judgeQuery_103 ?_
            refine lv_iconst (v := 5) hx hb dX12_judgeQuery_106 (by decide) ?_
            refine lv_iload_n hx hb dX12_judgeQuery_107 rfl (lv_at hl 3 rfl) ?_
            refine lv_imul hx hb dX12_judgeQuery_108 ?_
            refine lv_iload hx hb dX12_judgeQuery_109 (lv_at hl 5 rfl) ?_
            refine lv_iadd hx hb dX12_judgeQuery_111 ?_
            obtain ⟨v_25, hv_25, h⟩ := ob h
            refine ag_62 hx hb hK hP hv_25 dX12_judgeQuery_112 ?_
            refine lv_iconst (v := 1) hx hb dX12_judgeQuery_113 (by decide) ?_
            refine lv_icmp_eq (tgt := 124) hx hb dX12_judgeQuery_114 (by decide) (fun c_26 => ?_) (fun c_26 => ?_)
            · skip
              replace h := (if_pos c_26).symm.trans h
              exact B_124 cs1 u1 u2 y0 u4 u5 v_24 h _ _ _ hP hD hS (lv_sub hl [2, 3, 4, 1, 5, 6, 0] rfl)
            · skip
              replace h := (if_neg c_26).symm.trans h
              refine lv_aload_n hx hb dX12_judgeQuery_117 rfl (lv_at hl 2 rfl) ?_
              refine lv_iload_n hx hb dX12_judgeQuery_118 rfl (lv_at hl 1 rfl) ?_
              refine lv_iload hx hb dX12_judgeQuery_119 (lv_at hl 0 rfl) ?_
              obtain ⟨cs_27, hv_27, h⟩ := ob h
              refine calV (As := [.int y0, .int v_24]) hx hb hml hts hown hK hP hD hS hA hZ (s_bounded l dC dI cB cI cJ cZ h0 a K V fz F cs1 y0 v_24 cs_27 hv_27) (cw_bounded hts (fr := 1) (by show 1 + 1 ≤ n + 1 + 310; omega) (by show 8 + (3 + 11) + 60 * (1) ≤ 60 * (n + 1 + 310); omega)) rfl hl.1 (Nat.le_of_ble_eq_true rfl) ⟨Nat.zero_le _, Nat.zero_le _⟩ dX12_judgeQuery_121 (fun H locs hP hD hS => ?_)
              exact B_124 cs_27 u1 u2 y0 u4 u5 v_24 h _ _ _ hP hD hS (lv_sub hl [2, 3, 4, 1, 5, 6, 0] rfl)
      have B_75 : ∀ (cs1 : RS) (u1 : Int32) (u2 : Int32) (u4 : Int32) (u5 : Int32), m_judgeQuery_b75 F T (m_judgeQuery_L14 F T lf_14) cs1 u1 u2 u4 u5 = some cs9 → ∀ (H : Heap) (locs : List Loc) (ls : Array Slot), va_P (dC, dI) vwCl (mW cB cI cJ cZ h0 a cs1) H → va_D A (mW cB cI cJ cZ h0 a cs1) → va_S A s.heap H locs → lv_has ls 9 [(0, .ref h0), (1, .int u1), (2, .int u2), (4, .int u4), (5, .int u5)] → W p l e (headSpec (wsOf yX12_judgeQuery cX12_judgeQuery 9 none) ({ frames := n + 1 + 310, cells := 0, slots := 0, locals := 60 * (n + 1 + 310) } : Room)).room s m ([.ref h0, .int x1] : List Value).toArray below meth c H locs 0 0 (MQ below (va_Qv (fun (_ : Unit) => True) (fun _ t_ => va_P (dC, dI) vwCl (mW cB cI cJ cZ h0 a cs9) t_.heap ∧ va_D A (mW cB cI cJ cZ h0 a cs9)) A) ([.ref h0, .int x1] : List Value).toArray s 0 0 A) (F0 m 75 ls []) := by
        intro cs1 u1 u2 u4 u5 h H locs ls hP hD hS hl
        unfold m_judgeQuery_b75 at h
        refine lv_iconst (v := 0) hx hb dX12_judgeQuery_75 (by decide) ?_
        exact B_76 cs1 u1 u2 u4 u5 0 h _ _ _ hP hD hS (lv_sub hl [0, 1, 2, 3, 4] rfl)
      intro cs1 u1 u2 u3 u4 h H locs ls hP hD hS hl
      rw [m_judgeQuery_L14] at h
      refine lv_iload hx hb dX12_judgeQuery_14 (lv_at hl 4 rfl) ?_
      refine lv_aload_n hx hb dX12_judgeQuery_16 rfl (lv_at hl 0 rfl) ?_
      refine fg_60 hx hb hts hown hK hP dX12_judgeQuery_17 ?_
      refine lv_iload_n hx hb dX12_judgeQuery_20 rfl (lv_at hl 1 rfl) ?_
      obtain ⟨v_28, hv_28, h⟩ := ob h
      refine ag_60 hx hb hK hP hv_28 dX12_judgeQuery_21 ?_
      refine lv_icmp_ge (tgt := 227) hx hb dX12_judgeQuery_22 (by decide) (fun c_29 => ?_) (fun c_29 => ?_)
      · skip
        replace h := (if_pos c_29).symm.trans h
        exact B_227 cs1 u1 u2 u3 h _ _ _ hP hD hS (lv_sub hl [0, 1, 2, 3] rfl)
      · skip
        replace h := (if_neg c_29).symm.trans h
        refine lv_aload_n hx hb dX12_judgeQuery_25 rfl (lv_at hl 0 rfl) ?_
        refine fg_21 hx hb hts hown hK hP dX12_judgeQuery_26 ?_
        refine lv_if_eq (tgt := 227) hx hb dX12_judgeQuery_29 (by decide) (fun c_30 => ?_) (fun c_30 => ?_)
        · skip
          replace h := (if_pos c_30).symm.trans h
          exact B_227 cs1 u1 u2 u3 h _ _ _ hP hD hS (lv_sub hl [0, 1, 2, 3] rfl)
        · skip
          replace h := (if_neg c_30).symm.trans h
          refine lv_aload_n hx hb dX12_judgeQuery_32 rfl (lv_at hl 0 rfl) ?_
          refine fg_61 hx hb hts hown hK hP dX12_judgeQuery_33 ?_
          refine lv_iconst (v := 5) hx hb dX12_judgeQuery_36 (by decide) ?_
          refine lv_iload_n hx hb dX12_judgeQuery_37 rfl (lv_at hl 1 rfl) ?_
          refine lv_imul hx hb dX12_judgeQuery_38 ?_
          refine lv_iload hx hb dX12_judgeQuery_39 (lv_at hl 4 rfl) ?_
          refine lv_iadd hx hb dX12_judgeQuery_41 ?_
          obtain ⟨v_31, hv_31, h⟩ := ob h
          refine ag_61 hx hb hK hP hv_31 dX12_judgeQuery_42 ?_
          refine lv_istore (lv' := [(5, .int v_31), (0, .ref h0), (1, .int u1), (2, .int u2), (3, .int u3), (4, .int u4)]) hx hb dX12_judgeQuery_43 hl (by decide) rfl (fun ls hl => ?_)
          refine lv_aload_n hx hb dX12_judgeQuery_45 rfl (lv_at hl 1 rfl) ?_
          refine lv_iload hx hb dX12_judgeQuery_46 (lv_at hl 0 rfl) ?_
          obtain ⟨cs_32, hv_32, h⟩ := ob h
          refine calV (As := [.int v_31]) hx hb hml hts hown hK hP hD hS hA hZ (hT_judgeSelect cs1 v_31 cs_32 hv_32) (cw_judgeSelect hts (fr := n + 310) (by show n + 310 + 1 ≤ n + 1 + 310; omega) (by show 8 + (7 + 11) + 60 * (n + 310) ≤ 60 * (n + 1 + 310); omega)) rfl hl.1 (Nat.le_of_ble_eq_true rfl) ⟨Nat.zero_le _, Nat.zero_le _⟩ dX12_judgeQuery_48 (fun H locs hP hD hS => ?_)
          refine lv_iload_n hx hb dX12_judgeQuery_51 rfl (lv_at hl 4 rfl) ?_
          refine lv_if_eq (tgt := 75) hx hb dX12_judgeQuery_52 (by decide) (fun c_33 => ?_) (fun c_33 => ?_)
          · skip
            replace h := (if_pos c_33).symm.trans h
            exact B_75 cs_32 u1 u2 u4 v_31 h _ _ _ hP hD hS (lv_sub hl [1, 2, 3, 5, 0] rfl)
          · skip
            replace h := (if_neg c_33).symm.trans h
            refine lv_aload_n hx hb dX12_judgeQuery_55 rfl (lv_at hl 1 rfl) ?_
            refine lv_iload hx hb dX12_judgeQuery_56 (lv_at hl 0 rfl) ?_
            refine lv_aload_n hx hb dX12_judgeQuery_58 rfl (lv_at hl 1 rfl) ?_
            refine fg_37 hx hb hts hown hK hP dX12_judgeQuery_59 ?_
            refine lv_iload hx hb dX12_judgeQuery_62 (lv_at hl 0 rfl) ?_
            obtain ⟨v_34, hv_34, h⟩ := ob h
            refine ag_37 hx hb hK hP hv_34 dX12_judgeQuery_64 ?_
            obtain ⟨v_35, hv_35, h⟩ := ob h
            refine calI (As := [.int v_31, .int v_34]) hx hb hml hts hown hK hP hD hS hA hZ (s_isKeptSelect l dC dI cB cI cJ cZ h0 a K V fz F 300 cs_32 v_31 v_34 v_35 hv_35) (cw_isKeptSelect hts (fr := 300) (by show 300 + 1 ≤ n + 1 + 310; omega) (by show 8 + (4 + 11) + 60 * (300) ≤ 60 * (n + 1 + 310); omega)) rfl hl.1 (Nat.le_of_ble_eq_true rfl) ⟨Nat.zero_le _, Nat.zero_le _⟩ dX12_judgeQuery_65 (fun H locs hP hD hS => ?_)
            refine lv_if_eq (tgt := 75) hx hb dX12_judgeQuery_68 (by decide) (fun c_36 => ?_) (fun c_36 => ?_)
            · skip
              replace h := (if_pos c_36).symm.trans h
              exact B_75 cs_32 u1 u2 u4 v_31 h _ _ _ hP hD hS (lv_sub hl [1, 2, 3, 5, 0] rfl)
            · skip
              replace h := (if_neg c_36).symm.trans h
              refine lv_iconst (v := 1) hx hb dX12_judgeQuery_71 (by decide) ?_
              refine lv_goto (tgt := 76) hx hb dX12_judgeQuery_72 (by decide) ?_
              exact B_76 cs_32 u1 u2 u4 v_31 1 h _ _ _ hP hD hS (lv_sub hl [1, 2, 3, 5, 0] rfl)
  have h := hf
  unfold b_judgeQuery at h
  refine lv_aload_n hx hb dX12_judgeQuery_0 rfl (lv_at hl 0 rfl) ?_
  refine fg_61 hx hb hts hown hK hP dX12_judgeQuery_1 ?_
  refine lv_iconst (v := 5) hx hb dX12_judgeQuery_4 (by decide) ?_
  refine lv_iload_n hx hb dX12_judgeQuery_5 rfl (lv_at hl 1 rfl) ?_
  refine lv_imul hx hb dX12_judgeQuery_6 ?_
  obtain ⟨v_37, hv_37, h⟩ := ob h
  refine ag_61 hx hb hK hP hv_37 dX12_judgeQuery_7 ?_
  refine lv_istore_n (lv' := [(2, .int v_37), (0, .ref h0), (1, .int x1)]) hx hb dX12_judgeQuery_8 rfl hl (by decide) rfl (fun ls hl => ?_)
  refine lv_iconst (v := 1) hx hb dX12_judgeQuery_9 (by decide) ?_
  refine lv_istore_n (lv' := [(3, .int 1), (2, .int v_37), (0, .ref h0), (1, .int x1)]) hx hb dX12_judgeQuery_10 rfl hl (by decide) rfl (fun ls hl => ?_)
  refine lv_iconst (v := 0) hx hb dX12_judgeQuery_11 (by decide) ?_
  refine lv_istore (lv' := [(4, .int 0), (3, .int 1), (2, .int v_37), (0, .ref h0), (1, .int x1)]) hx hb dX12_judgeQuery_12 hl (by decide) rfl (fun ls hl => ?_)
  exact L_14 F cs x1 v_37 1 0 h _ _ _ hP hD hS (lv_sub hl [3, 4, 2, 1, 0] rfl)
set_option maxHeartbeats 4000000 in
set_option maxRecDepth 100000 in
theorem sb_judgeSelect (l : Launch) (dC : Nat → ClassId) (dI : Nat → Nat → Nat) (cB cI cJ cZ : ClassId) (h0 : Nat) (a : Nat → Nat) (K V : Nat → Nat) (fz : Value) (F : Nat) (n : Nat) (T : TG_judgeQuery) (hT_judgeQuery : ∀ (cs : RS) (x1 : Int32) (cs9 : RS), T.1 cs x1 = some cs9 → okV l dC dI cB cI cJ cZ h0 a K V fz yX12_judgeQuery (wsOf yX12_judgeQuery cX12_judgeQuery 9 none) (n + 310) [.ref h0, .int x1] cs cs9) (hT_judgeSelect : ∀ (cs : RS) (x1 : Int32) (cs9 : RS), T.2 cs x1 = some cs9 → okV l dC dI cB cI cJ cZ h0 a K V fz yX12_judgeSelect (wsOf yX12_judgeSelect cX12_judgeSelect 7 none) (n + 310) [.ref h0, .int x1] cs cs9) (cs : RS) (x1 : Int32) (cs9 : RS) (hf : b_judgeSelect F T cs x1 = some cs9) : okV l dC dI cB cI cJ cZ h0 a K V fz yX12_judgeSelect (wsOf yX12_judgeSelect cX12_judgeSelect 7 none) (n + 1 + 310) [.ref h0, .int x1] cs cs9 := by
  intro sz
  refine Met.ofW (cc := cX12_judgeSelect) (maxL := 7) (ret := none) (by decide) rfl ?_
  intro p e s m args below meth c s₁ B hml hv
  obtain ⟨rfl, hsz, hP, hK, hD0, hZ⟩ := hv
  have hx := B.exec
  have hb := B.bytes
  have hr := B.returns
  have hts := atoms_spec (ws := (wsOf yX12_judgeSelect cX12_judgeSelect 7 none)) B.pre
  have hown : s.vm.findClass RX12 = some m.cls := findClass_of_methodNamed B.named
  have hlocks := B.notSynchronized
  subst hsz
  have hD := hD0.self (sz := s.heap.size)
  generalize hAe : va_A (mW cB cI cJ cZ h0 a cs) s.heap.size = A at hD hZ ⊢
  have hA : ∀ q : Nat, s.heap.size ≤ q → A q := fun q h => by rw [← hAe]; exact Or.inr h
  have hS : va_S A s.heap s.heap [] := va_S.rf
  have hl := lv_entry ([.ref h0, .int x1]) (n := 7) (Nat.le_of_ble_eq_true rfl)
  rw [lg_entry_eq]
  generalize (lg_sl ([.ref h0, .int x1]) ++ List.replicate (7 - (lg_sl ([.ref h0, .int x1])).length) Slot.unset).toArray = ls at hl ⊢
  have hl : lv_has ls 7 [(0, .ref h0), (1, .int x1)] := hl
  have B_732 : ∀ (cs1 : RS) , m_judgeSelect_b732 F T cs1 = some cs9 → ∀ (H : Heap) (locs : List Loc) (ls : Array Slot), va_P (dC, dI) vwCl (mW cB cI cJ cZ h0 a cs1) H → va_D A (mW cB cI cJ cZ h0 a cs1) → va_S A s.heap H locs → lv_has ls 7 [] → W p l e (headSpec (wsOf yX12_judgeSelect cX12_judgeSelect 7 none) ({ frames := n + 1 + 310, cells := 0, slots := 0, locals := 60 * (n + 1 + 310) } : Room)).room s m ([.ref h0, .int x1] : List Value).toArray below meth c H locs 0 0 (MQ below (va_Qv (fun (_ : Unit) => True) (fun _ t_ => va_P (dC, dI) vwCl (mW cB cI cJ cZ h0 a cs9) t_.heap ∧ va_D A (mW cB cI cJ cZ h0 a cs9)) A) ([.ref h0, .int x1] : List Value).toArray s 0 0 A) (F0 m 732 ls []) := by
    intro cs1  h H locs ls hP hD hS hl
    unfold m_judgeSelect_b732 at h
    have e1 := Option.some.inj h
    rw [e1] at hP hD
    exact W.vret hx hb hr (fun t_ ht hW => ⟨⟨(), rfl, trivial, by rw [ht]; exact hP, hD⟩, hS.F ht⟩) hS.2.2 dX12_judgeSelect_732
  have B_704 : ∀ (cs1 : RS) (u1 : Int32) (u3 : Int32), m_judgeSelect_b704 F T cs1 u1 u3 = some cs9 → ∀ (H : Heap) (locs : List Loc) (ls : Array Slot), va_P (dC, dI) vwCl (mW cB cI cJ cZ h0 a cs1) H → va_D A (mW cB cI cJ cZ h0 a cs1) → va_S A s.heap H locs → lv_has ls 7 [(0, .ref h0), (1, .int u1), (3, .int u3)] → W p l e (headSpec (wsOf yX12_judgeSelect cX12_judgeSelect 7 none) ({ frames := n + 1 + 310, cells := 0, slots := 0, locals := 60 * (n + 1 + 310) } : Room)).room s m ([.ref h0, .int x1] : List Value).toArray below meth c H locs 0 0 (MQ below (va_Qv (fun (_ : Unit) => True) (fun _ t_ => va_P (dC, dI) vwCl (mW cB cI cJ cZ h0 a cs9) t_.heap ∧ va_D A (mW cB cI cJ cZ h0 a cs9)) A) ([.ref h0, .int x1] : List Value).toArray s 0 0 A) (F0 m 704 ls []) := by
    intro cs1 u1 u3 h H locs ls hP hD hS hl
    unfold m_judgeSelect_b704 at h
    refine lv_aload_n hx hb dX12_judgeSelect_704 rfl (lv_at hl 0 rfl) ?_
    refine fg_35 hx hb hts hown hK hP dX12_judgeSelect_705 ?_
    refine lv_iload_n hx hb dX12_judgeSelect_708 rfl (lv_at hl 1 rfl) ?_
    obtain ⟨v_1, hv_1, h⟩ := ob h
    refine ag_35 hx hb hK hP hv_1 dX12_judgeSelect_709 ?_
    refine lv_iconst (v := (-1)) hx hb dX12_judgeSelect_710 (by decide) ?_
    refine lv_icmp_eq (tgt := 732) hx hb dX12_judgeSelect_711 (by decide) (fun c_2 => ?_) (fun c_2 => ?_)
    · skip
      replace h := (if_pos c_2).symm.trans h
      exact B_732 cs1 h _ _ _ hP hD hS (lv_sub hl [] rfl)
    · skip
      replace h := (if_neg c_2).symm.trans h
      refine lv_aload_n hx hb dX12_judgeSelect_714 rfl (lv_at hl 0 rfl) ?_
      refine fg_21 hx hb hts hown hK hP dX12_judgeSelect_715 ?_
      refine lv_if_eq (tgt := 732) hx hb dX12_judgeSelect_718 (by decide) (fun c_3 => ?_) (fun c_3 => ?_)
      · skip
        replace h := (if_pos c_3).symm.trans h
        exact B_732 cs1 h _ _ _ hP hD hS (lv_sub hl [] rfl)
      · skip
        replace h := (if_neg c_3).symm.trans h
        refine lv_aload_n hx hb dX12_judgeSelect_721 rfl (lv_at hl 0 rfl) ?_
        refine lv_iload_n hx hb dX12_judgeSelect_722 rfl (lv_at hl 2 rfl) ?_
        refine lv_aload_n hx hb dX12_judgeSelect_723 rfl (lv_at hl 0 rfl) ?_
        refine fg_35 hx hb hts hown hK hP dX12_judgeSelect_724 ?_
        refine lv_iload_n hx hb dX12_judgeSelect_727 rfl (lv_at hl 1 rfl) ?_
        obtain ⟨v_4, hv_4, h⟩ := ob h
        refine ag_35 hx hb hK hP hv_4 dX12_judgeSelect_728 ?_
        obtain ⟨cs_5, hv_5, h⟩ := ob h
        refine calV (As := [.int u3, .int v_4]) hx hb hml hts hown hK hP hD hS hA hZ (s_bounded l dC dI cB cI cJ cZ h0 a K V fz F cs1 u3 v_4 cs_5 hv_5) (cw_bounded hts (fr := 1) (by show 1 + 1 ≤ n + 1 + 310; omega) (by show 8 + (3 + 11) + 60 * (1) ≤ 60 * (n + 1 + 310); omega)) rfl hl.1 (Nat.le_of_ble_eq_true rfl) ⟨Nat.zero_le _, Nat.zero_le _⟩ dX12_judgeSelect_729 (fun H locs hP hD hS => ?_)
        exact B_732 cs_5 h _ _ _ hP hD hS (lv_sub hl [] rfl)
  have L_627 : ∀ (lf_627 : Nat), ∀ (cs1 : RS) (u1 : Int32) (u3 : Int32) (u4 : Int32), m_judgeSelect_L627 F T lf_627 cs1 u1 u3 u4 = some cs9 → ∀ (H : Heap) (locs : List Loc) (ls : Array Slot), va_P (dC, dI) vwCl (mW cB cI cJ cZ h0 a cs1) H → va_D A (mW cB cI cJ cZ h0 a cs1) → va_S A s.heap H locs → lv_has ls 7 [(0, .ref h0), (1, .int u1), (3, .int u3), (4, .int u4)] → W p l e (headSpec (wsOf yX12_judgeSelect cX12_judgeSelect 7 none) ({ frames := n + 1 + 310, cells := 0, slots := 0, locals := 60 * (n + 1 + 310) } : Room)).room s m ([.ref h0, .int x1] : List Value).toArray below meth c H locs 0 0 (MQ below (va_Qv (fun (_ : Unit) => True) (fun _ t_ => va_P (dC, dI) vwCl (mW cB cI cJ cZ h0 a cs9) t_.heap ∧ va_D A (mW cB cI cJ cZ h0 a cs9)) A) ([.ref h0, .int x1] : List Value).toArray s 0 0 A) (F0 m 627 ls []) := by
    intro lf_627
    induction lf_627 with
    | zero => intro cs1 u1 u3 u4 h; cases (show (none : Option RS) = _ from h)
    | succ lf_627 ih_627 =>
      have B_697 : ∀ (cs1 : RS) (u1 : Int32) (u3 : Int32) (u4 : Int32) (y0 : Int32) (y1 : Int32), m_judgeSelect_b697 F T (m_judgeSelect_L627 F T lf_627) cs1 u1 u3 u4 y0 y1 = some cs9 → ∀ (H : Heap) (locs : List Loc) (ls : Array Slot), va_P (dC, dI) vwCl (mW cB cI cJ cZ h0 a cs1) H → va_D A (mW cB cI cJ cZ h0 a cs1) → va_S A s.heap H locs → lv_has ls 7 [(0, .ref h0), (1, .int u1), (3, .int u3), (4, .int u4)] → W p l e (headSpec (wsOf yX12_judgeSelect cX12_judgeSelect 7 none) ({ frames := n + 1 + 310, cells := 0, slots := 0, locals := 60 * (n + 1 + 310) } : Room)).room s m ([.ref h0, .int x1] : List Value).toArray below meth c H locs 0 0 (MQ below (va_Qv (fun (_ : Unit) => True) (fun _ t_ => va_P (dC, dI) vwCl (mW cB cI cJ cZ h0 a cs9) t_.heap ∧ va_D A (mW cB cI cJ cZ h0 a cs9)) A) ([.ref h0, .int x1] : List Value).toArray s 0 0 A) (F0 m 697 ls [.int y0, .int y1, .ref (a 46)]) := by
        intro cs1 u1 u3 u4 y0 y1 h H locs ls hP hD hS hl
        unfold m_judgeSelect_b697 at h
        obtain ⟨cs_6, hv_6, h⟩ := ob h
        refine ap_46 hx hb hK hP hD hS hv_6 dX12_judgeSelect_697 (fun H locs hP hD hS => ?_)
        refine lv_iinc (v := u4 + 1) (lv' := [(4, .int (u4 + 1)), (0, .ref h0), (1, .int u1), (3, .int u3)]) hx hb dX12_judgeSelect_698 hl (k := 3) rfl rfl (by decide) rfl (fun ls hl => ?_)
        refine lv_goto (tgt := 627) hx hb dX12_judgeSelect_701 (by decide) ?_
        exact ih_627 cs_6 u1 u3 (u4 + 1) h _ _ _ hP hD hS (lv_sub hl [1, 2, 3, 0] rfl)
      intro cs1 u1 u3 u4 h H locs ls hP hD hS hl
      rw [m_judgeSelect_L627] at h
      refine lv_iload hx hb dX12_judgeSelect_627 (lv_at hl 3 rfl) ?_
      refine lv_aload_n hx hb dX12_judgeSelect_629 rfl (lv_at hl 0 rfl) ?_
      refine fg_36 hx hb hts hown hK hP dX12_judgeSelect_630 ?_
      refine lv_iload_n hx hb dX12_judgeSelect_633 rfl (lv_at hl 1 rfl) ?_
      obtain ⟨v_7, hv_7, h⟩ := ob h
      refine ag_36 hx hb hK hP hv_7 dX12_judgeSelect_634 ?_
      refine lv_icmp_ge (tgt := 704) hx hb dX12_judgeSelect_635 (by decide) (fun c_8 => ?_) (fun c_8 => ?_)
      · skip
        replace h := (if_pos c_8).symm.trans h
        exact B_704 cs1 u1 u3 h _ _ _ hP hD hS (lv_sub hl [0, 1, 2] rfl)
      · skip
        replace h := (if_neg c_8).symm.trans h
        refine lv_aload_n hx hb dX12_judgeSelect_638 rfl (lv_at hl 0 rfl) ?_
        refine fg_21 hx hb hts hown hK hP dX12_judgeSelect_639 ?_
        refine lv_if_eq (tgt := 704) hx hb dX12_judgeSelect_642 (by decide) (fun c_9 => ?_) (fun c_9 => ?_)
        · skip
          replace h := (if_pos c_9).symm.trans h
          exact B_704 cs1 u1 u3 h _ _ _ hP hD hS (lv_sub hl [0, 1, 2] rfl)
        · skip
          replace h := (if_neg c_9).symm.trans h
          refine lv_aload_n hx hb dX12_judgeSelect_645 rfl (lv_at hl 0 rfl) ?_
          refine fg_44 hx hb hts hown hK hP dX12_judgeSelect_646 ?_
          refine lv_bipush (v := 8) hx hb dX12_judgeSelect_649 (by decide) ?_
          refine lv_iload_n hx hb dX12_judgeSelect_651 rfl (lv_at hl 1 rfl) ?_
          refine lv_imul hx hb dX12_judgeSelect_652 ?_
          refine lv_iload hx hb dX12_judgeSelect_653 (lv_at hl 3 rfl) ?_
          refine lv_iadd hx hb dX12_judgeSelect_655 ?_
          obtain ⟨v_10, hv_10, h⟩ := ob h
          refine ag_44 hx hb hK hP hv_10 dX12_judgeSelect_656 ?_
          refine lv_istore (lv' := [(5, .int v_10), (0, .ref h0), (1, .int u1), (3, .int u3), (4, .int u4)]) hx hb dX12_judgeSelect_657 hl (by decide) rfl (fun ls hl => ?_)
          refine lv_aload_n hx hb dX12_judgeSelect_659 rfl (lv_at hl 1 rfl) ?_
          refine lv_iload hx hb dX12_judgeSelect_660 (lv_at hl 0 rfl) ?_
          obtain ⟨cs_11, hv_11, h⟩ := ob h
          refine calV (As := [.int v_10]) hx hb hml hts hown hK hP hD hS hA hZ (s_judge l dC dI cB cI cJ cZ h0 a K V fz F 300 cs1 v_10 cs_11 hv_11) (cw_judge hts (fr := 309) (by show 309 + 1 ≤ n + 1 + 310; omega) (by show 8 + (6 + 11) + 60 * (309) ≤ 60 * (n + 1 + 310); omega)) rfl hl.1 (Nat.le_of_ble_eq_true rfl) ⟨Nat.zero_le _, Nat.zero_le _⟩ dX12_judgeSelect_662 (fun H locs hP hD hS => ?_)
          refine lv_aload_n hx hb dX12_judgeSelect_665 rfl (lv_at hl 1 rfl) ?_
          refine fg_46 hx hb hts hown hK hP dX12_judgeSelect_666 ?_
          refine lv_bipush (v := 8) hx hb dX12_judgeSelect_669 (by decide) ?_
          refine lv_iload_n hx hb dX12_judgeSelect_671 rfl (lv_at hl 2 rfl) ?_
          refine lv_imul hx hb dX12_judgeSelect_672 ?_
          refine lv_iload hx hb dX12_judgeSelect_673 (lv_at hl 4 rfl) ?_
          refine lv_iadd hx hb dX12_judgeSelect_675 ?_
          refine lv_aload_n hx hb dX12_judgeSelect_676 rfl (lv_at hl 1 rfl) ?_
          refine fg_31 hx hb hts hown hK hP dX12_judgeSelect_677 ?_
          refine lv_iload hx hb dX12_judgeSelect_680 (lv_at hl 0 rfl) ?_
          obtain ⟨v_12, hv_12, h⟩ := ob h
          refine ag_31 hx hb hK hP hv_12 dX12_judgeSelect_682 ?_
          refine lv_if_ne (tgt := 690) hx hb dX12_judgeSelect_683 (by decide) (fun c_13 => ?_) (fun c_13 => ?_)
          · skip
            replace h := (if_neg c_13).symm.trans h
            refine lv_aload_n hx hb dX12_judgeSelect_690 rfl (lv_at hl 1 rfl) ?_
            refine fg_31 hx hb hts hown hK hP dX12_judgeSelect_691 ?_
            refine lv_iload hx hb dX12_judgeSelect_694 (lv_at hl 0 rfl) ?_
            obtain ⟨v_14, hv_14, h⟩ := ob h
            refine ag_31 hx hb hK hP hv_14 dX12_judgeSelect_696 ?_
            exact B_697 cs_11 u1 u3 u4 v_14 ((8 * u1) + u4) h _ _ _ hP hD hS (lv_sub hl [1, 2, 3, 4] rfl)
          · skip
            replace h := (if_pos c_13).symm.trans h
            refine lv_iconst (v := 1) hx hb dX12_judgeSelect_686 (by decide) ?_
            refine lv_goto (tgt := 697) hx hb dX12_judgeSelect_687 (by decide) ?_
            exact B_697 cs_11 u1 u3 u4 1 ((8 * u1) + u4) h _ _ _ hP hD hS (lv_sub hl [1, 2, 3, 4] rfl)
  have B_624 : ∀ (cs1 : RS) (u1 : Int32) (u3 : Int32), m_judgeSelect_b624 F T cs1 u1 u3 = some cs9 → ∀ (H : Heap) (locs : List Loc) (ls : Array Slot), va_P (dC, dI) vwCl (mW cB cI cJ cZ h0 a cs1) H → va_D A (mW cB cI cJ cZ h0 a cs1) → va_S A s.heap H locs → lv_has ls 7 [(0, .ref h0), (1, .int u1), (3, .int u3)] → W p l e (headSpec (wsOf yX12_judgeSelect cX12_judgeSelect 7 none) ({ frames := n + 1 + 310, cells := 0, slots := 0, locals := 60 * (n + 1 + 310) } : Room)).room s m ([.ref h0, .int x1] : List Value).toArray below meth c H locs 0 0 (MQ below (va_Qv (fun (_ : Unit) => True) (fun _ t_ => va_P (dC, dI) vwCl (mW cB cI cJ cZ h0 a cs9) t_.heap ∧ va_D A (mW cB cI cJ cZ h0 a cs9)) A) ([.ref h0, .int x1] : List Value).toArray s 0 0 A) (F0 m 624 ls []) := by
    intro cs1 u1 u3 h H locs ls hP hD hS hl
    unfold m_judgeSelect_b624 at h
    refine lv_iconst (v := 0) hx hb dX12_judgeSelect_624 (by decide) ?_
    refine lv_istore (lv' := [(4, .int 0), (0, .ref h0), (1, .int u1), (3, .int u3)]) hx hb dX12_judgeSelect_625 hl (by decide) rfl (fun ls hl => ?_)
    exact L_627 F cs1 u1 u3 0 h _ _ _ hP hD hS (lv_sub hl [1, 2, 3, 0] rfl)
  have B_568 : ∀ (cs1 : RS) (u1 : Int32) (u3 : Int32) (y0 : Int32), m_judgeSelect_b568 F T cs1 u1 u3 y0 = some cs9 → ∀ (H : Heap) (locs : List Loc) (ls : Array Slot), va_P (dC, dI) vwCl (mW cB cI cJ cZ h0 a cs1) H → va_D A (mW cB cI cJ cZ h0 a cs1) → va_S A s.heap H locs → lv_has ls 7 [(0, .ref h0), (1, .int u1), (3, .int u3)] → W p l e (headSpec (wsOf yX12_judgeSelect cX12_judgeSelect 7 none) ({ frames := n + 1 + 310, cells := 0, slots := 0, locals := 60 * (n + 1 + 310) } : Room)).room s m ([.ref h0, .int x1] : List Value).toArray below meth c H locs 0 0 (MQ below (va_Qv (fun (_ : Unit) => True) (fun _ t_ => va_P (dC, dI) vwCl (mW cB cI cJ cZ h0 a cs9) t_.heap ∧ va_D A (mW cB cI cJ cZ h0 a cs9)) A) ([.ref h0, .int x1] : List Value).toArray s 0 0 A) (F0 m 568 ls [.int y0, .ref h0]) := by
    intro cs1 u1 u3 y0 h H locs ls hP hD hS hl
    unfold m_judgeSelect_b568 at h
    refine fp_76 hx hb hts hown hK hP hD hS dX12_judgeSelect_568 (fun H locs hP hD hS => ?_)
    refine lv_aload_n hx hb dX12_judgeSelect_571 rfl (lv_at hl 0 rfl) ?_
    refine lv_iload_n hx hb dX12_judgeSelect_572 rfl (lv_at hl 1 rfl) ?_
    refine fp_77 hx hb hts hown hK hP hD hS dX12_judgeSelect_573 (fun H locs hP hD hS => ?_)
    refine lv_aload_n hx hb dX12_judgeSelect_576 rfl (lv_at hl 0 rfl) ?_
    refine lv_aload_n hx hb dX12_judgeSelect_577 rfl (lv_at hl 0 rfl) ?_
    refine fg_37 hx hb hts hown hK hP dX12_judgeSelect_578 ?_
    refine lv_iload_n hx hb dX12_judgeSelect_581 rfl (lv_at hl 1 rfl) ?_
    obtain ⟨v_15, hv_15, h⟩ := ob h
    refine ag_37 hx hb hK hP hv_15 dX12_judgeSelect_582 ?_
    refine fp_78 hx hb hts hown hK hP hD hS dX12_judgeSelect_583 (fun H locs hP hD hS => ?_)
    refine lv_aload_n hx hb dX12_judgeSelect_586 rfl (lv_at hl 0 rfl) ?_
    refine fg_41 hx hb hts hown hK hP dX12_judgeSelect_587 ?_
    refine lv_iload_n hx hb dX12_judgeSelect_590 rfl (lv_at hl 1 rfl) ?_
    obtain ⟨v_16, hv_16, h⟩ := ob h
    refine ag_41 hx hb hK hP hv_16 dX12_judgeSelect_591 ?_
    refine lv_iconst (v := (-1)) hx hb dX12_judgeSelect_592 (by decide) ?_
    refine lv_icmp_eq (tgt := 624) hx hb dX12_judgeSelect_593 (by decide) (fun c_17 => ?_) (fun c_17 => ?_)
    · skip
      replace h := (if_pos c_17).symm.trans h
      exact B_624 (setF (setF (setF cs1 76 y0) 77 u1) 78 v_15) u1 u3 h _ _ _ hP hD hS (lv_sub hl [0, 1, 2] rfl)
    · skip
      replace h := (if_neg c_17).symm.trans h
      refine lv_aload_n hx hb dX12_judgeSelect_596 rfl (lv_at hl 0 rfl) ?_
      refine fg_21 hx hb hts hown hK hP dX12_judgeSelect_597 ?_
      refine lv_if_eq (tgt := 624) hx hb dX12_judgeSelect_600 (by decide) (fun c_18 => ?_) (fun c_18 => ?_)
      · skip
        replace h := (if_pos c_18).symm.trans h
        exact B_624 (setF (setF (setF cs1 76 y0) 77 u1) 78 v_15) u1 u3 h _ _ _ hP hD hS (lv_sub hl [0, 1, 2] rfl)
      · skip
        replace h := (if_neg c_18).symm.trans h
        refine lv_aload_n hx hb dX12_judgeSelect_603 rfl (lv_at hl 0 rfl) ?_
        refine lv_aload_n hx hb dX12_judgeSelect_604 rfl (lv_at hl 0 rfl) ?_
        refine fg_41 hx hb hts hown hK hP dX12_judgeSelect_605 ?_
        refine lv_iload_n hx hb dX12_judgeSelect_608 rfl (lv_at hl 1 rfl) ?_
        obtain ⟨v_19, hv_19, h⟩ := ob h
        refine ag_41 hx hb hK hP hv_19 dX12_judgeSelect_609 ?_
        obtain ⟨cs_20, hv_20, h⟩ := ob h
        refine calV (As := [.int v_19]) hx hb hml hts hown hK hP hD hS hA hZ (s_judge l dC dI cB cI cJ cZ h0 a K V fz F 300 (setF (setF (setF cs1 76 y0) 77 u1) 78 v_15) v_19 cs_20 hv_20) (cw_judge hts (fr := 309) (by show 309 + 1 ≤ n + 1 + 310; omega) (by show 8 + (6 + 11) + 60 * (309) ≤ 60 * (n + 1 + 310); omega)) rfl hl.1 (Nat.le_of_ble_eq_true rfl) ⟨Nat.zero_le _, Nat.zero_le _⟩ dX12_judgeSelect_610 (fun H locs hP hD hS => ?_)
        refine lv_aload_n hx hb dX12_judgeSelect_613 rfl (lv_at hl 0 rfl) ?_
        refine lv_aload_n hx hb dX12_judgeSelect_614 rfl (lv_at hl 0 rfl) ?_
        refine fg_41 hx hb hts hown hK hP dX12_judgeSelect_615 ?_
        refine lv_iload_n hx hb dX12_judgeSelect_618 rfl (lv_at hl 1 rfl) ?_
        obtain ⟨v_21, hv_21, h⟩ := ob h
        refine ag_41 hx hb hK hP hv_21 dX12_judgeSelect_619 ?_
        refine lv_iconst (v := 2) hx hb dX12_judgeSelect_620 (by decide) ?_
        obtain ⟨cs_22, hv_22, h⟩ := ob h
        refine calV (As := [.int v_21, .int 2]) hx hb hml hts hown hK hP hD hS hA hZ (s_want l dC dI cB cI cJ cZ h0 a K V fz F cs_20 v_21 2 cs_22 hv_22) (cw_want hts (fr := 1) (by show 1 + 1 ≤ n + 1 + 310; omega) (by show 8 + (3 + 11) + 60 * (1) ≤ 60 * (n + 1 + 310); omega)) rfl hl.1 (Nat.le_of_ble_eq_true rfl) ⟨Nat.zero_le _, Nat.zero_le _⟩ dX12_judgeSelect_621 (fun H locs hP hD hS => ?_)
        exact B_624 cs_22 u1 u3 h _ _ _ hP hD hS (lv_sub hl [0, 1, 2] rfl)
  have B_554 : ∀ (cs1 : RS) (u1 : Int32) (u3 : Int32), m_judgeSelect_b554 F T cs1 u1 u3 = some cs9 → ∀ (H : Heap) (locs : List Loc) (ls : Array Slot), va_P (dC, dI) vwCl (mW cB cI cJ cZ h0 a cs1) H → va_D A (mW cB cI cJ cZ h0 a cs1) → va_S A s.heap H locs → lv_has ls 7 [(0, .ref h0), (1, .int u1), (3, .int u3)] → W p l e (headSpec (wsOf yX12_judgeSelect cX12_judgeSelect 7 none) ({ frames := n + 1 + 310, cells := 0, slots := 0, locals := 60 * (n + 1 + 310) } : Room)).room s m ([.ref h0, .int x1] : List Value).toArray below meth c H locs 0 0 (MQ below (va_Qv (fun (_ : Unit) => True) (fun _ t_ => va_P (dC, dI) vwCl (mW cB cI cJ cZ h0 a cs9) t_.heap ∧ va_D A (mW cB cI cJ cZ h0 a cs9)) A) ([.ref h0, .int x1] : List Value).toArray s 0 0 A) (F0 m 554 ls []) := by
    intro cs1 u1 u3 h H locs ls hP hD hS hl
    unfold m_judgeSelect_b554 at h
    refine lv_aload_n hx hb dX12_judgeSelect_554 rfl (lv_at hl 0 rfl) ?_
    refine lv_aload_n hx hb dX12_judgeSelect_555 rfl (lv_at hl 0 rfl) ?_
    refine lv_iload_n hx hb dX12_judgeSelect_556 rfl (lv_at hl 1 rfl) ?_
    obtain ⟨v_23, hv_23, h⟩ := ob h
    refine calI (As := [.int u1]) hx hb hml hts hown hK hP hD hS hA hZ (s_isGrouped l dC dI cB cI cJ cZ h0 a K V fz F cs1 u1 v_23 hv_23) (cw_isGrouped hts (fr := 0) (by show 0 + 1 ≤ n + 1 + 310; omega) (by show 8 + (2 + 11) + 60 * (0) ≤ 60 * (n + 1 + 310); omega)) rfl hl.1 (Nat.le_of_ble_eq_true rfl) ⟨Nat.zero_le _, Nat.zero_le _⟩ dX12_judgeSelect_557 (fun H locs hP hD hS => ?_)
    refine lv_if_eq (tgt := 567) hx hb dX12_judgeSelect_560 (by decide) (fun c_24 => ?_) (fun c_24 => ?_)
    · skip
      replace h := (if_pos c_24).symm.trans h
      refine lv_iconst (v := 0) hx hb dX12_judgeSelect_567 (by decide) ?_
      exact B_568 cs1 u1 u3 0 h _ _ _ hP hD hS (lv_sub hl [0, 1, 2] rfl)
    · skip
      replace h := (if_neg c_24).symm.trans h
      refine lv_iconst (v := 1) hx hb dX12_judgeSelect_563 (by decide) ?_
      refine lv_goto (tgt := 568) hx hb dX12_judgeSelect_564 (by decide) ?_
      exact B_568 cs1 u1 u3 1 h _ _ _ hP hD hS (lv_sub hl [0, 1, 2] rfl)
  have B_524 : ∀ (cs1 : RS) (u1 : Int32) (u3 : Int32), m_judgeSelect_b524 F T cs1 u1 u3 = some cs9 → ∀ (H : Heap) (locs : List Loc) (ls : Array Slot), va_P (dC, dI) vwCl (mW cB cI cJ cZ h0 a cs1) H → va_D A (mW cB cI cJ cZ h0 a cs1) → va_S A s.heap H locs → lv_has ls 7 [(0, .ref h0), (1, .int u1), (3, .int u3)] → W p l e (headSpec (wsOf yX12_judgeSelect cX12_judgeSelect 7 none) ({ frames := n + 1 + 310, cells := 0, slots := 0, locals := 60 * (n + 1 + 310) } : Room)).room s m ([.ref h0, .int x1] : List Value).toArray below meth c H locs 0 0 (MQ below (va_Qv (fun (_ : Unit) => True) (fun _ t_ => va_P (dC, dI) vwCl (mW cB cI cJ cZ h0 a cs9) t_.heap ∧ va_D A (mW cB cI cJ cZ h0 a cs9)) A) ([.ref h0, .int x1] : List Value).toArray s 0 0 A) (F0 m 524 ls []) := by
    intro cs1 u1 u3 h H locs ls hP hD hS hl
    unfold m_judgeSelect_b524 at h
    refine lv_goto (tgt := 554) hx hb dX12_judgeSelect_524 (by decide) ?_
    exact B_554 cs1 u1 u3 h _ _ _ hP hD hS (lv_sub hl [0, 1, 2] rfl)
  have L_378 : ∀ (lf_378 : Nat), ∀ (cs1 : RS) (u1 : Int32) (u3 : Int32) (u4 : Int32), m_judgeSelect_L378 F T lf_378 cs1 u1 u3 u4 = some cs9 → ∀ (H : Heap) (locs : List Loc) (ls : Array Slot), va_P (dC, dI) vwCl (mW cB cI cJ cZ h0 a cs1) H → va_D A (mW cB cI cJ cZ h0 a cs1) → va_S A s.heap H locs → lv_has ls 7 [(0, .ref h0), (1, .int u1), (3, .int u3), (4, .int u4)] → W p l e (headSpec (wsOf yX12_judgeSelect cX12_judgeSelect 7 none) ({ frames := n + 1 + 310, cells := 0, slots := 0, locals := 60 * (n + 1 + 310) } : Room)).room s m ([.ref h0, .int x1] : List Value).toArray below meth c H locs 0 0 (MQ below (va_Qv (fun (_ : Unit) => True) (fun _ t_ => va_P (dC, dI) vwCl (mW cB cI cJ cZ h0 a cs9) t_.heap ∧ va_D A (mW cB cI cJ cZ h0 a cs9)) A) ([.ref h0, .int x1] : List Value).toArray s 0 0 A) (F0 m 378 ls []) := by
    intro lf_378
    induction lf_378 with
    | zero => intro cs1 u1 u3 u4 h; cases (show (none : Option RS) = _ from h)
    | succ lf_378 ih_378 =>
      have L_452 : ∀ (lf_452 : Nat), ∀ (cs1 : RS) (u1 : Int32) (u3 : Int32) (u4 : Int32) (u6 : Int32), m_judgeSelect_L452 F T (m_judgeSelect_L378 F T lf_378) lf_452 cs1 u1 u3 u4 u6 = some cs9 → ∀ (H : Heap) (locs : List Loc) (ls : Array Slot), va_P (dC, dI) vwCl (mW cB cI cJ cZ h0 a cs1) H → va_D A (mW cB cI cJ cZ h0 a cs1) → va_S A s.heap H locs → lv_has ls 7 [(0, .ref h0), (1, .int u1), (3, .int u3), (4, .int u4), (6, .int u6)] → W p l e (headSpec (wsOf yX12_judgeSelect cX12_judgeSelect 7 none) ({ frames := n + 1 + 310, cells := 0, slots := 0, locals := 60 * (n + 1 + 310) } : Room)).room s m ([.ref h0, .int x1] : List Value).toArray below meth c H locs 0 0 (MQ below (va_Qv (fun (_ : Unit) => True) (fun _ t_ => va_P (dC, dI) vwCl (mW cB cI cJ cZ h0 a cs9) t_.heap ∧ va_D A (mW cB cI cJ cZ h0 a cs9)) A) ([.ref h0, .int x1] : List Value).toArray s 0 0 A) (F0 m 452 ls []) := by
        intro lf_452
        induction lf_452 with
        | zero => intro cs1 u1 u3 u4 u6 h; cases (show (none : Option RS) = _ from h)
        | succ lf_452 ih_452 =>
          have B_512 : ∀ (cs1 : RS) (u1 : Int32) (u3 : Int32) (u4 : Int32) (u6 : Int32), m_judgeSelect_b512 F T (m_judgeSelect_L378 F T lf_378) (m_judgeSelect_L452 F T (m_judgeSelect_L378 F T lf_378) lf_452) cs1 u1 u3 u4 u6 = some cs9 → ∀ (H : Heap) (locs : List Loc) (ls : Array Slot), va_P (dC, dI) vwCl (mW cB cI cJ cZ h0 a cs1) H → va_D A (mW cB cI cJ cZ h0 a cs1) → va_S A s.heap H locs → lv_has ls 7 [(0, .ref h0), (1, .int u1), (3, .int u3), (4, .int u4), (6, .int u6)] → W p l e (headSpec (wsOf yX12_judgeSelect cX12_judgeSelect 7 none) ({ frames := n + 1 + 310, cells := 0, slots := 0, locals := 60 * (n + 1 + 310) } : Room)).room s m ([.ref h0, .int x1] : List Value).toArray below meth c H locs 0 0 (MQ below (va_Qv (fun (_ : Unit) => True) (fun _ t_ => va_P (dC, dI) vwCl (mW cB cI cJ cZ h0 a cs9) t_.heap ∧ va_D A (mW cB cI cJ cZ h0 a cs9)) A) ([.ref h0, .int x1] : List Value).toArray s 0 0 A) (F0 m 512 ls []) := by
            intro cs1 u1 u3 u4 u6 h H locs ls hP hD hS hl
            unfold m_judgeSelect_b512 at h
            refine lv_iinc (v := u6 + 1) (lv' := [(6, .int (u6 + 1)), (0, .ref h0), (1, .int u1), (3, .int u3), (4, .int u4)]) hx hb dX12_judgeSelect_512 hl (k := 4) rfl rfl (by decide) rfl (fun ls hl => ?_)
            refine lv_goto (tgt := 452) hx hb dX12_judgeSelect_515 (by decide) ?_
            exact ih_452 cs1 u1 u3 u4 (u6 + 1) h _ _ _ hP hD hS (lv_sub hl [1, 2, 3, 4, 0] rfl)
          intro cs1 u1 u3 u4 u6 h H locs ls hP hD hS hl
          rw [m_judgeSelect_L452] at h
          refine lv_iload hx hb dX12_judgeSelect_452 (lv_at hl 4 rfl) ?_
          refine lv_iload hx hb dX12_judgeSelect_454 (lv_at hl 3 rfl) ?_
          refine lv_icmp_ge (tgt := 518) hx hb dX12_judgeSelect_456 (by decide) (fun c_25 => ?_) (fun c_25 => ?_)
          · skip
            replace h := (if_pos c_25).symm.trans h
            refine lv_iinc (v := u4 + 1) (lv' := [(4, .int (u4 + 1)), (0, .ref h0), (1, .int u1), (3, .int u3), (6, .int u6)]) hx hb dX12_judgeSelect_518 hl (k := 3) rfl rfl (by decide) rfl (fun ls hl => ?_)
            refine lv_goto (tgt := 378) hx hb dX12_judgeSelect_521 (by decide) ?_
            exact ih_378 cs1 u1 u3 (u4 + 1) h _ _ _ hP hD hS (lv_sub hl [1, 2, 3, 0] rfl)
          · skip
            replace h := (if_neg c_25).symm.trans h
            refine lv_aload_n hx hb dX12_judgeSelect_459 rfl (lv_at hl 0 rfl) ?_
            refine lv_aload_n hx hb dX12_judgeSelect_460 rfl (lv_at hl 0 rfl) ?_
            refine fg_48 hx hb hts hown hK hP dX12_judgeSelect_461 ?_
            refine lv_bipush (v := 8) hx hb dX12_judgeSelect_464 (by decide) ?_
            refine lv_iload_n hx hb dX12_judgeSelect_466 rfl (lv_at hl 1 rfl) ?_
            refine lv_imul hx hb dX12_judgeSelect_467 ?_
            refine lv_iload hx hb dX12_judgeSelect_468 (lv_at hl 3 rfl) ?_
            refine lv_iadd hx hb dX12_judgeSelect_470 ?_
            obtain ⟨v_26, hv_26, h⟩ := ob h
            refine ag_48 hx hb hK hP hv_26 dX12_judgeSelect_471 ?_
            refine lv_aload_n hx hb dX12_judgeSelect_472 rfl (lv_at hl 0 rfl) ?_
            refine fg_48 hx hb hts hown hK hP dX12_judgeSelect_473 ?_
            refine lv_bipush (v := 8) hx hb dX12_judgeSelect_476 (by decide) ?_
            refine lv_iload_n hx hb dX12_judgeSelect_478 rfl (lv_at hl 1 rfl) ?_
            refine lv_imul hx hb dX12_judgeSelect_479 ?_
            refine lv_iload hx hb dX12_judgeSelect_480 (lv_at hl 4 rfl) ?_
            refine lv_iadd hx hb dX12_judgeSelect_482 ?_
            obtain ⟨v_27, hv_27, h⟩ := ob h
            refine ag_48 hx hb hK hP hv_27 dX12_judgeSelect_483 ?_
            obtain ⟨v_28, hv_28, h⟩ := ob h
            refine calI (As := [.int v_26, .int v_27]) hx hb hml hts hown hK hP hD hS hA hZ (s_isSame l dC dI cB cI cJ cZ h0 a K V fz F cs1 v_26 v_27 v_28 hv_28) (cw_isSame hts (fr := 0) (by show 0 + 1 ≤ n + 1 + 310; omega) (by show 8 + (4 + 11) + 60 * (0) ≤ 60 * (n + 1 + 310); omega)) rfl hl.1 (Nat.le_of_ble_eq_true rfl) ⟨Nat.zero_le _, Nat.zero_le _⟩ dX12_judgeSelect_484 (fun H locs hP hD hS => ?_)
            refine lv_if_eq (tgt := 512) hx hb dX12_judgeSelect_487 (by decide) (fun c_29 => ?_) (fun c_29 => ?_)
            · skip
              replace h := (if_pos c_29).symm.trans h
              exact B_512 cs1 u1 u3 u4 u6 h _ _ _ hP hD hS (lv_sub hl [0, 1, 2, 3, 4] rfl)
            · skip
              replace h := (if_neg c_29).symm.trans h
              refine lv_aload_n hx hb dX12_judgeSelect_490 rfl (lv_at hl 0 rfl) ?_
              refine lv_iconst (v := 2) hx hb dX12_judgeSelect_491 (by decide) ?_
              refine lv_aload_n hx hb dX12_judgeSelect_492 rfl (lv_at hl 0 rfl) ?_
              refine fg_15 hx hb hts hown hK hP dX12_judgeSelect_493 ?_
              refine lv_aload_n hx hb dX12_judgeSelect_496 rfl (lv_at hl 0 rfl) ?_
              refine fg_48 hx hb hts hown hK hP dX12_judgeSelect_497 ?_
              refine lv_bipush (v := 8) hx hb dX12_judgeSelect_500 (by decide) ?_
              refine lv_iload_n hx hb dX12_judgeSelect_502 rfl (lv_at hl 1 rfl) ?_
              refine lv_imul hx hb dX12_judgeSelect_503 ?_
              refine lv_iload hx hb dX12_judgeSelect_504 (lv_at hl 3 rfl) ?_
              refine lv_iadd hx hb dX12_judgeSelect_506 ?_
              obtain ⟨v_30, hv_30, h⟩ := ob h
              refine ag_48 hx hb hK hP hv_30 dX12_judgeSelect_507 ?_
              obtain ⟨v_31, hv_31, h⟩ := ob h
              refine ag_15 hx hb hK hP hv_31 dX12_judgeSelect_508 ?_
              obtain ⟨cs_32, hv_32, h⟩ := ob h
              refine calV (As := [.int 2, .int v_31]) hx hb hml hts hown hK hP hD hS hA hZ (s_tell l dC dI cB cI cJ cZ h0 a K V fz F cs1 2 v_31 cs_32 hv_32) (cw_tell hts (fr := 0) (by show 0 + 1 ≤ n + 1 + 310; omega) (by show 8 + (3 + 11) + 60 * (0) ≤ 60 * (n + 1 + 310); omega)) rfl hl.1 (Nat.le_of_ble_eq_true rfl) ⟨Nat.zero_le _, Nat.zero_le _⟩ dX12_judgeSelect_509 (fun H locs hP hD hS => ?_)
              exact B_512 cs_32 u1 u3 u4 u6 h _ _ _ hP hD hS (lv_sub hl [0, 1, 2, 3, 4] rfl)
      have B_448 : ∀ (cs1 : RS) (u1 : Int32) (u3 : Int32) (u4 : Int32) (y0 : Int32) (y1 : Int32), m_judgeSelect_b448 F T (m_judgeSelect_L378 F T lf_378) cs1 u1 u3 u4 y0 y1 = some cs9 → ∀ (H : Heap) (locs : List Loc) (ls : Array Slot), va_P (dC, dI) vwCl (mW cB cI cJ cZ h0 a cs1) H → va_D A (mW cB cI cJ cZ h0 a cs1) → va_S A s.heap H locs → lv_has ls 7 [(0, .ref h0), (1, .int u1), (3, .int u3), (4, .int u4)] → W p l e (headSpec (wsOf yX12_judgeSelect cX12_judgeSelect 7 none) ({ frames := n + 1 + 310, cells := 0, slots := 0, locals := 60 * (n + 1 + 310) } : Room)).room s m ([.ref h0, .int x1] : List Value).toArray below meth c H locs 0 0 (MQ below (va_Qv (fun (_ : Unit) => True) (fun _ t_ => va_P (dC, dI) vwCl (mW cB cI cJ cZ h0 a cs9) t_.heap ∧ va_D A (mW cB cI cJ cZ h0 a cs9)) A) ([.ref h0, .int x1] : List Value).toArray s 0 0 A) (F0 m 448 ls [.int y0, .int y1, .ref (a 80)]) := by
        intro cs1 u1 u3 u4 y0 y1 h H locs ls hP hD hS hl
        unfold m_judgeSelect_b448 at h
        obtain ⟨cs_33, hv_33, h⟩ := ob h
        refine ap_80 hx hb hK hP hD hS hv_33 dX12_judgeSelect_448 (fun H locs hP hD hS => ?_)
        refine lv_iconst (v := 0) hx hb dX12_judgeSelect_449 (by decide) ?_
        refine lv_istore (lv' := [(6, .int 0), (0, .ref h0), (1, .int u1), (3, .int u3), (4, .int u4)]) hx hb dX12_judgeSelect_450 hl (by decide) rfl (fun ls hl => ?_)
        exact L_452 F cs_33 u1 u3 u4 0 h _ _ _ hP hD hS (lv_sub hl [1, 2, 3, 4, 0] rfl)
      intro cs1 u1 u3 u4 h H locs ls hP hD hS hl
      rw [m_judgeSelect_L378] at h
      refine lv_iload hx hb dX12_judgeSelect_378 (lv_at hl 3 rfl) ?_
      refine lv_aload_n hx hb dX12_judgeSelect_380 rfl (lv_at hl 0 rfl) ?_
      refine fg_39 hx hb hts hown hK hP dX12_judgeSelect_381 ?_
      refine lv_iload_n hx hb dX12_judgeSelect_384 rfl (lv_at hl 1 rfl) ?_
      obtain ⟨v_34, hv_34, h⟩ := ob h
      refine ag_39 hx hb hK hP hv_34 dX12_judgeSelect_385 ?_
      refine lv_icmp_ge (tgt := 524) hx hb dX12_judgeSelect_386 (by decide) (fun c_35 => ?_) (fun c_35 => ?_)
      · skip
        replace h := (if_pos c_35).symm.trans h
        exact B_524 cs1 u1 u3 h _ _ _ hP hD hS (lv_sub hl [0, 1, 2] rfl)
      · skip
        replace h := (if_neg c_35).symm.trans h
        refine lv_aload_n hx hb dX12_judgeSelect_389 rfl (lv_at hl 0 rfl) ?_
        refine fg_21 hx hb hts hown hK hP dX12_judgeSelect_390 ?_
        refine lv_if_eq (tgt := 524) hx hb dX12_judgeSelect_393 (by decide) (fun c_36 => ?_) (fun c_36 => ?_)
        · skip
          replace h := (if_pos c_36).symm.trans h
          exact B_524 cs1 u1 u3 h _ _ _ hP hD hS (lv_sub hl [0, 1, 2] rfl)
        · skip
          replace h := (if_neg c_36).symm.trans h
          refine lv_aload_n hx hb dX12_judgeSelect_396 rfl (lv_at hl 0 rfl) ?_
          refine fg_47 hx hb hts hown hK hP dX12_judgeSelect_397 ?_
          refine lv_bipush (v := 8) hx hb dX12_judgeSelect_400 (by decide) ?_
          refine lv_iload_n hx hb dX12_judgeSelect_402 rfl (lv_at hl 1 rfl) ?_
          refine lv_imul hx hb dX12_judgeSelect_403 ?_
          refine lv_iload hx hb dX12_judgeSelect_404 (lv_at hl 3 rfl) ?_
          refine lv_iadd hx hb dX12_judgeSelect_406 ?_
          obtain ⟨v_37, hv_37, h⟩ := ob h
          refine ag_47 hx hb hK hP hv_37 dX12_judgeSelect_407 ?_
          refine lv_istore (lv' := [(5, .int v_37), (0, .ref h0), (1, .int u1), (3, .int u3), (4, .int u4)]) hx hb dX12_judgeSelect_408 hl (by decide) rfl (fun ls hl => ?_)
          refine lv_aload_n hx hb dX12_judgeSelect_410 rfl (lv_at hl 1 rfl) ?_
          refine lv_iload hx hb dX12_judgeSelect_411 (lv_at hl 0 rfl) ?_
          obtain ⟨cs_38, hv_38, h⟩ := ob h
          refine calV (As := [.int v_37]) hx hb hml hts hown hK hP hD hS hA hZ (s_judge l dC dI cB cI cJ cZ h0 a K V fz F 300 cs1 v_37 cs_38 hv_38) (cw_judge hts (fr := 309) (by show 309 + 1 ≤ n + 1 + 310; omega) (by show 8 + (6 + 11) + 60 * (309) ≤ 60 * (n + 1 + 310); omega)) rfl hl.1 (Nat.le_of_ble_eq_true rfl) ⟨Nat.zero_le _, Nat.zero_le _⟩ dX12_judgeSelect_413 (fun H locs hP hD hS => ?_)
          refine lv_aload_n hx hb dX12_judgeSelect_416 rfl (lv_at hl 1 rfl) ?_
          refine fg_80 hx hb hts hown hK hP dX12_judgeSelect_417 ?_
          refine lv_bipush (v := 8) hx hb dX12_judgeSelect_420 (by decide) ?_
          refine lv_iload_n hx hb dX12_judgeSelect_422 rfl (lv_at hl 2 rfl) ?_
          refine lv_imul hx hb dX12_judgeSelect_423 ?_
          refine lv_iload hx hb dX12_judgeSelect_424 (lv_at hl 4 rfl) ?_
          refine lv_iadd hx hb dX12_judgeSelect_426 ?_
          refine lv_aload_n hx hb dX12_judgeSelect_427 rfl (lv_at hl 1 rfl) ?_
          refine fg_31 hx hb hts hown hK hP dX12_judgeSelect_428 ?_
          refine lv_iload hx hb dX12_judgeSelect_431 (lv_at hl 0 rfl) ?_
          obtain ⟨v_39, hv_39, h⟩ := ob h
          refine ag_31 hx hb hK hP hv_39 dX12_judgeSelect_433 ?_
          refine lv_if_ne (tgt := 441) hx hb dX12_judgeSelect_434 (by decide) (fun c_40 => ?_) (fun c_40 => ?_)
          · skip
            replace h := (if_neg c_40).symm.trans h
            refine lv_aload_n hx hb dX12_judgeSelect_441 rfl (lv_at hl 1 rfl) ?_
            refine fg_31 hx hb hts hown hK hP dX12_judgeSelect_442 ?_
            refine lv_iload hx hb dX12_judgeSelect_445 (lv_at hl 0 rfl) ?_
            obtain ⟨v_41, hv_41, h⟩ := ob h
            refine ag_31 hx hb hK hP hv_41 dX12_judgeSelect_447 ?_
            exact B_448 cs_38 u1 u3 u4 v_41 ((8 * u1) + u4) h _ _ _ hP hD hS (lv_sub hl [1, 2, 3, 4] rfl)
          · skip
            replace h := (if_pos c_40).symm.trans h
            refine lv_iconst (v := 1) hx hb dX12_judgeSelect_437 (by decide) ?_
            refine lv_goto (tgt := 448) hx hb dX12_judgeSelect_438 (by decide) ?_
            exact B_448 cs_38 u1 u3 u4 1 ((8 * u1) + u4) h _ _ _ hP hD hS (lv_sub hl [1, 2, 3, 4] rfl)
  have B_527 : ∀ (cs1 : RS) (u1 : Int32) (u3 : Int32), m_judgeSelect_b527 F T cs1 u1 u3 = some cs9 → ∀ (H : Heap) (locs : List Loc) (ls : Array Slot), va_P (dC, dI) vwCl (mW cB cI cJ cZ h0 a cs1) H → va_D A (mW cB cI cJ cZ h0 a cs1) → va_S A s.heap H locs → lv_has ls 7 [(0, .ref h0), (1, .int u1), (3, .int u3)] → W p l e (headSpec (wsOf yX12_judgeSelect cX12_judgeSelect 7 none) ({ frames := n + 1 + 310, cells := 0, slots := 0, locals := 60 * (n + 1 + 310) } : Room)).room s m ([.ref h0, .int x1] : List Value).toArray below meth c H locs 0 0 (MQ below (va_Qv (fun (_ : Unit) => True) (fun _ t_ => va_P (dC, dI) vwCl (mW cB cI cJ cZ h0 a cs9) t_.heap ∧ va_D A (mW cB cI cJ cZ h0 a cs9)) A) ([.ref h0, .int x1] : List Value).toArray s 0 0 A) (F0 m 527 ls []) := by
    intro cs1 u1 u3 h H locs ls hP hD hS hl
    unfold m_judgeSelect_b527 at h
    refine lv_aload_n hx hb dX12_judgeSelect_527 rfl (lv_at hl 0 rfl) ?_
    refine fg_42 hx hb hts hown hK hP dX12_judgeSelect_528 ?_
    refine lv_iload_n hx hb dX12_judgeSelect_531 rfl (lv_at hl 1 rfl) ?_
    obtain ⟨v_42, hv_42, h⟩ := ob h
    refine ag_42 hx hb hK hP hv_42 dX12_judgeSelect_532 ?_
    refine lv_if_le (tgt := 554) hx hb dX12_judgeSelect_533 (by decide) (fun c_43 => ?_) (fun c_43 => ?_)
    · skip
      replace h := (if_pos c_43).symm.trans h
      exact B_554 cs1 u1 u3 h _ _ _ hP hD hS (lv_sub hl [0, 1, 2] rfl)
    · skip
      replace h := (if_neg c_43).symm.trans h
      refine lv_aload_n hx hb dX12_judgeSelect_536 rfl (lv_at hl 0 rfl) ?_
      refine fg_21 hx hb hts hown hK hP dX12_judgeSelect_537 ?_
      refine lv_if_eq (tgt := 554) hx hb dX12_judgeSelect_540 (by decide) (fun c_44 => ?_) (fun c_44 => ?_)
      · skip
        replace h := (if_pos c_44).symm.trans h
        exact B_554 cs1 u1 u3 h _ _ _ hP hD hS (lv_sub hl [0, 1, 2] rfl)
      · skip
        replace h := (if_neg c_44).symm.trans h
        refine lv_aload_n hx hb dX12_judgeSelect_543 rfl (lv_at hl 0 rfl) ?_
        refine lv_iload_n hx hb dX12_judgeSelect_544 rfl (lv_at hl 2 rfl) ?_
        refine lv_aload_n hx hb dX12_judgeSelect_545 rfl (lv_at hl 0 rfl) ?_
        refine fg_43 hx hb hts hown hK hP dX12_judgeSelect_546 ?_
        refine lv_iload_n hx hb dX12_judgeSelect_549 rfl (lv_at hl 1 rfl) ?_
        obtain ⟨v_45, hv_45, h⟩ := ob h
        refine ag_43 hx hb hK hP hv_45 dX12_judgeSelect_550 ?_
        obtain ⟨cs_46, hv_46, h⟩ := ob h
        refine calV (As := [.int u3, .int v_45]) hx hb hml hts hown hK hP hD hS hA hZ (s_bounded l dC dI cB cI cJ cZ h0 a K V fz F cs1 u3 v_45 cs_46 hv_46) (cw_bounded hts (fr := 1) (by show 1 + 1 ≤ n + 1 + 310; omega) (by show 8 + (3 + 11) + 60 * (1) ≤ 60 * (n + 1 + 310); omega)) rfl hl.1 (Nat.le_of_ble_eq_true rfl) ⟨Nat.zero_le _, Nat.zero_le _⟩ dX12_judgeSelect_551 (fun H locs hP hD hS => ?_)
        exact B_554 cs_46 u1 u3 h _ _ _ hP hD hS (lv_sub hl [0, 1, 2] rfl)
  have B_346 : ∀ (cs1 : RS) (u1 : Int32) (y0 : Int32), m_judgeSelect_b346 F T cs1 u1 y0 = some cs9 → ∀ (H : Heap) (locs : List Loc) (ls : Array Slot), va_P (dC, dI) vwCl (mW cB cI cJ cZ h0 a cs1) H → va_D A (mW cB cI cJ cZ h0 a cs1) → va_S A s.heap H locs → lv_has ls 7 [(0, .ref h0), (1, .int u1)] → W p l e (headSpec (wsOf yX12_judgeSelect cX12_judgeSelect 7 none) ({ frames := n + 1 + 310, cells := 0, slots := 0, locals := 60 * (n + 1 + 310) } : Room)).room s m ([.ref h0, .int x1] : List Value).toArray below meth c H locs 0 0 (MQ below (va_Qv (fun (_ : Unit) => True) (fun _ t_ => va_P (dC, dI) vwCl (mW cB cI cJ cZ h0 a cs9) t_.heap ∧ va_D A (mW cB cI cJ cZ h0 a cs9)) A) ([.ref h0, .int x1] : List Value).toArray s 0 0 A) (F0 m 346 ls [.int y0]) := by
    intro cs1 u1 y0 h H locs ls hP hD hS hl
    unfold m_judgeSelect_b346 at h
    refine lv_istore_n (lv' := [(3, .int y0), (0, .ref h0), (1, .int u1)]) hx hb dX12_judgeSelect_346 rfl hl (by decide) rfl (fun ls hl => ?_)
    refine lv_aload_n hx hb dX12_judgeSelect_347 rfl (lv_at hl 1 rfl) ?_
    refine fg_40 hx hb hts hown hK hP dX12_judgeSelect_348 ?_
    refine lv_iload_n hx hb dX12_judgeSelect_351 rfl (lv_at hl 2 rfl) ?_
    obtain ⟨v_47, hv_47, h⟩ := ob h
    refine ag_40 hx hb hK hP hv_47 dX12_judgeSelect_352 ?_
    refine lv_iconst (v := (-1)) hx hb dX12_judgeSelect_353 (by decide) ?_
    refine lv_icmp_eq (tgt := 527) hx hb dX12_judgeSelect_354 (by decide) (fun c_48 => ?_) (fun c_48 => ?_)
    · skip
      replace h := (if_pos c_48).symm.trans h
      exact B_527 cs1 u1 y0 h _ _ _ hP hD hS (lv_sub hl [1, 2, 0] rfl)
    · skip
      replace h := (if_neg c_48).symm.trans h
      refine lv_aload_n hx hb dX12_judgeSelect_357 rfl (lv_at hl 1 rfl) ?_
      refine fg_21 hx hb hts hown hK hP dX12_judgeSelect_358 ?_
      refine lv_if_eq (tgt := 527) hx hb dX12_judgeSelect_361 (by decide) (fun c_49 => ?_) (fun c_49 => ?_)
      · skip
        replace h := (if_pos c_49).symm.trans h
        exact B_527 cs1 u1 y0 h _ _ _ hP hD hS (lv_sub hl [1, 2, 0] rfl)
      · skip
        replace h := (if_neg c_49).symm.trans h
        refine lv_aload_n hx hb dX12_judgeSelect_364 rfl (lv_at hl 1 rfl) ?_
        refine lv_iload_n hx hb dX12_judgeSelect_365 rfl (lv_at hl 0 rfl) ?_
        refine lv_aload_n hx hb dX12_judgeSelect_366 rfl (lv_at hl 1 rfl) ?_
        refine fg_40 hx hb hts hown hK hP dX12_judgeSelect_367 ?_
        refine lv_iload_n hx hb dX12_judgeSelect_370 rfl (lv_at hl 2 rfl) ?_
        obtain ⟨v_50, hv_50, h⟩ := ob h
        refine ag_40 hx hb hK hP hv_50 dX12_judgeSelect_371 ?_
        obtain ⟨cs_51, hv_51, h⟩ := ob h
        refine calV (As := [.int y0, .int v_50]) hx hb hml hts hown hK hP hD hS hA hZ (s_bounded l dC dI cB cI cJ cZ h0 a K V fz F cs1 y0 v_50 cs_51 hv_51) (cw_bounded hts (fr := 1) (by show 1 + 1 ≤ n + 1 + 310; omega) (by show 8 + (3 + 11) + 60 * (1) ≤ 60 * (n + 1 + 310); omega)) rfl hl.1 (Nat.le_of_ble_eq_true rfl) ⟨Nat.zero_le _, Nat.zero_le _⟩ dX12_judgeSelect_372 (fun H locs hP hD hS => ?_)
        refine lv_iconst (v := 0) hx hb dX12_judgeSelect_375 (by decide) ?_
        refine lv_istore (lv' := [(4, .int 0), (3, .int y0), (0, .ref h0), (1, .int u1)]) hx hb dX12_judgeSelect_376 hl (by decide) rfl (fun ls hl => ?_)
        exact L_378 F cs_51 u1 y0 0 h _ _ _ hP hD hS (lv_sub hl [2, 3, 1, 0] rfl)
  have B_345 : ∀ (cs1 : RS) (u1 : Int32), m_judgeSelect_b345 F T cs1 u1 = some cs9 → ∀ (H : Heap) (locs : List Loc) (ls : Array Slot), va_P (dC, dI) vwCl (mW cB cI cJ cZ h0 a cs1) H → va_D A (mW cB cI cJ cZ h0 a cs1) → va_S A s.heap H locs → lv_has ls 7 [(0, .ref h0), (1, .int u1)] → W p l e (headSpec (wsOf yX12_judgeSelect cX12_judgeSelect 7 none) ({ frames := n + 1 + 310, cells := 0, slots := 0, locals := 60 * (n + 1 + 310) } : Room)).room s m ([.ref h0, .int x1] : List Value).toArray below meth c H locs 0 0 (MQ below (va_Qv (fun (_ : Unit) => True) (fun _ t_ => va_P (dC, dI) vwCl (mW cB cI cJ cZ h0 a cs9) t_.heap ∧ va_D A (mW cB cI cJ cZ h0 a cs9)) A) ([.ref h0, .int x1] : List Value).toArray s 0 0 A) (F0 m 345 ls []) := by
    intro cs1 u1 h H locs ls hP hD hS hl
    unfold m_judgeSelect_b345 at h
    refine lv_iconst (v := 0) hx hb dX12_judgeSelect_345 (by decide) ?_
    exact B_346 cs1 u1 0 h _ _ _ hP hD hS (lv_sub hl [0, 1] rfl)
  have B_320 : ∀ (cs1 : RS) (u1 : Int32), m_judgeSelect_b320 F T cs1 u1 = some cs9 → ∀ (H : Heap) (locs : List Loc) (ls : Array Slot), va_P (dC, dI) vwCl (mW cB cI cJ cZ h0 a cs1) H → va_D A (mW cB cI cJ cZ h0 a cs1) → va_S A s.heap H locs → lv_has ls 7 [(0, .ref h0), (1, .int u1)] → W p l e (headSpec (wsOf yX12_judgeSelect cX12_judgeSelect 7 none) ({ frames := n + 1 + 310, cells := 0, slots := 0, locals := 60 * (n + 1 + 310) } : Room)).room s m ([.ref h0, .int x1] : List Value).toArray below meth c H locs 0 0 (MQ below (va_Qv (fun (_ : Unit) => True) (fun _ t_ => va_P (dC, dI) vwCl (mW cB cI cJ cZ h0 a cs9) t_.heap ∧ va_D A (mW cB cI cJ cZ h0 a cs9)) A) ([.ref h0, .int x1] : List Value).toArray s 0 0 A) (F0 m 320 ls []) := by
    intro cs1 u1 h H locs ls hP hD hS hl
    unfold m_judgeSelect_b320 at h
    refine lv_aload_n hx hb dX12_judgeSelect_320 rfl (lv_at hl 0 rfl) ?_
    refine fg_21 hx hb hts hown hK hP dX12_judgeSelect_321 ?_
    refine lv_if_eq (tgt := 345) hx hb dX12_judgeSelect_324 (by decide) (fun c_52 => ?_) (fun c_52 => ?_)
    · skip
      replace h := (if_pos c_52).symm.trans h
      exact B_345 cs1 u1 h _ _ _ hP hD hS (lv_sub hl [0, 1] rfl)
    · skip
      replace h := (if_neg c_52).symm.trans h
      refine lv_aload_n hx hb dX12_judgeSelect_327 rfl (lv_at hl 0 rfl) ?_
      refine lv_iload_n hx hb dX12_judgeSelect_328 rfl (lv_at hl 1 rfl) ?_
      refine lv_aload_n hx hb dX12_judgeSelect_329 rfl (lv_at hl 0 rfl) ?_
      refine fg_37 hx hb hts hown hK hP dX12_judgeSelect_330 ?_
      refine lv_iload_n hx hb dX12_judgeSelect_333 rfl (lv_at hl 1 rfl) ?_
      obtain ⟨v_53, hv_53, h⟩ := ob h
      refine ag_37 hx hb hK hP hv_53 dX12_judgeSelect_334 ?_
      obtain ⟨v_54, hv_54, h⟩ := ob h
      refine calI (As := [.int u1, .int v_53]) hx hb hml hts hown hK hP hD hS hA hZ (s_isKeptSelect l dC dI cB cI cJ cZ h0 a K V fz F 300 cs1 u1 v_53 v_54 hv_54) (cw_isKeptSelect hts (fr := 300) (by show 300 + 1 ≤ n + 1 + 310; omega) (by show 8 + (4 + 11) + 60 * (300) ≤ 60 * (n + 1 + 310); omega)) rfl hl.1 (Nat.le_of_ble_eq_true rfl) ⟨Nat.zero_le _, Nat.zero_le _⟩ dX12_judgeSelect_335 (fun H locs hP hD hS => ?_)
      refine lv_if_eq (tgt := 345) hx hb dX12_judgeSelect_338 (by decide) (fun c_55 => ?_) (fun c_55 => ?_)
      · skip
        replace h := (if_pos c_55).symm.trans h
        exact B_345 cs1 u1 h _ _ _ hP hD hS (lv_sub hl [0, 1] rfl)
      · skip
        replace h := (if_neg c_55).symm.trans h
        refine lv_iconst (v := 1) hx hb dX12_judgeSelect_341 (by decide) ?_
        refine lv_goto (tgt := 346) hx hb dX12_judgeSelect_342 (by decide) ?_
        exact B_346 cs1 u1 1 h _ _ _ hP hD hS (lv_sub hl [0, 1] rfl)
  have B_271 : ∀ (cs1 : RS) (u1 : Int32), m_judgeSelect_b271 F T cs1 u1 = some cs9 → ∀ (H : Heap) (locs : List Loc) (ls : Array Slot), va_P (dC, dI) vwCl (mW cB cI cJ cZ h0 a cs1) H → va_D A (mW cB cI cJ cZ h0 a cs1) → va_S A s.heap H locs → lv_has ls 7 [(0, .ref h0), (1, .int u1)] → W p l e (headSpec (wsOf yX12_judgeSelect cX12_judgeSelect 7 none) ({ frames := n + 1 + 310, cells := 0, slots := 0, locals := 60 * (n + 1 + 310) } : Room)).room s m ([.ref h0, .int x1] : List Value).toArray below meth c H locs 0 0 (MQ below (va_Qv (fun (_ : Unit) => True) (fun _ t_ => va_P (dC, dI) vwCl (mW cB cI cJ cZ h0 a cs9) t_.heap ∧ va_D A (mW cB cI cJ cZ h0 a cs9)) A) ([.ref h0, .int x1] : List Value).toArray s 0 0 A) (F0 m 271 ls []) := by
    intro cs1 u1 h H locs ls hP hD hS hl
    unfold m_judgeSelect_b271 at h
    refine lv_aload_n hx hb dX12_judgeSelect_271 rfl (lv_at hl 0 rfl) ?_
    refine lv_iload_n hx hb dX12_judgeSelect_272 rfl (lv_at hl 1 rfl) ?_
    refine lv_aload_n hx hb dX12_judgeSelect_273 rfl (lv_at hl 0 rfl) ?_
    refine fg_37 hx hb hts hown hK hP dX12_judgeSelect_274 ?_
    refine lv_iload_n hx hb dX12_judgeSelect_277 rfl (lv_at hl 1 rfl) ?_
    obtain ⟨v_56, hv_56, h⟩ := ob h
    refine ag_37 hx hb hK hP hv_56 dX12_judgeSelect_278 ?_
    obtain ⟨cs_57, hv_57, h⟩ := ob h
    refine calV (As := [.int u1, .int v_56]) hx hb hml hts hown hK hP hD hS hA hZ (s_sourcesOf l dC dI cB cI cJ cZ h0 a K V fz F cs1 u1 v_56 cs_57 hv_57) (cw_sourcesOf hts (fr := 0) (by show 0 + 1 ≤ n + 1 + 310; omega) (by show 8 + (3 + 11) + 60 * (0) ≤ 60 * (n + 1 + 310); omega)) rfl hl.1 (Nat.le_of_ble_eq_true rfl) ⟨Nat.zero_le _, Nat.zero_le _⟩ dX12_judgeSelect_279 (fun H locs hP hD hS => ?_)
    refine lv_aload_n hx hb dX12_judgeSelect_282 rfl (lv_at hl 0 rfl) ?_
    refine fg_38 hx hb hts hown hK hP dX12_judgeSelect_283 ?_
    refine lv_iload_n hx hb dX12_judgeSelect_286 rfl (lv_at hl 1 rfl) ?_
    obtain ⟨v_58, hv_58, h⟩ := ob h
    refine ag_38 hx hb hK hP hv_58 dX12_judgeSelect_287 ?_
    refine lv_iconst (v := (-1)) hx hb dX12_judgeSelect_288 (by decide) ?_
    refine lv_icmp_eq (tgt := 320) hx hb dX12_judgeSelect_289 (by decide) (fun c_59 => ?_) (fun c_59 => ?_)
    · skip
      replace h := (if_pos c_59).symm.trans h
      exact B_320 cs_57 u1 h _ _ _ hP hD hS (lv_sub hl [0, 1] rfl)
    · skip
      replace h := (if_neg c_59).symm.trans h
      refine lv_aload_n hx hb dX12_judgeSelect_292 rfl (lv_at hl 0 rfl) ?_
      refine fg_21 hx hb hts hown hK hP dX12_judgeSelect_293 ?_
      refine lv_if_eq (tgt := 320) hx hb dX12_judgeSelect_296 (by decide) (fun c_60 => ?_) (fun c_60 => ?_)
      · skip
        replace h := (if_pos c_60).symm.trans h
        exact B_320 cs_57 u1 h _ _ _ hP hD hS (lv_sub hl [0, 1] rfl)
      · skip
        replace h := (if_neg c_60).symm.trans h
        refine lv_aload_n hx hb dX12_judgeSelect_299 rfl (lv_at hl 0 rfl) ?_
        refine lv_aload_n hx hb dX12_judgeSelect_300 rfl (lv_at hl 0 rfl) ?_
        refine fg_38 hx hb hts hown hK hP dX12_judgeSelect_301 ?_
        refine lv_iload_n hx hb dX12_judgeSelect_304 rfl (lv_at hl 1 rfl) ?_
        obtain ⟨v_61, hv_61, h⟩ := ob h
        refine ag_38 hx hb hK hP hv_61 dX12_judgeSelect_305 ?_
        obtain ⟨cs_62, hv_62, h⟩ := ob h
        refine calV (As := [.int v_61]) hx hb hml hts hown hK hP hD hS hA hZ (s_judge l dC dI cB cI cJ cZ h0 a K V fz F 300 cs_57 v_61 cs_62 hv_62) (cw_judge hts (fr := 309) (by show 309 + 1 ≤ n + 1 + 310; omega) (by show 8 + (6 + 11) + 60 * (309) ≤ 60 * (n + 1 + 310); omega)) rfl hl.1 (Nat.le_of_ble_eq_true rfl) ⟨Nat.zero_le _, Nat.zero_le _⟩ dX12_judgeSelect_306 (fun H locs hP hD hS => ?_)
        refine lv_aload_n hx hb dX12_judgeSelect_309 rfl (lv_at hl 0 rfl) ?_
        refine lv_aload_n hx hb dX12_judgeSelect_310 rfl (lv_at hl 0 rfl) ?_
        refine fg_38 hx hb hts hown hK hP dX12_judgeSelect_311 ?_
        refine lv_iload_n hx hb dX12_judgeSelect_314 rfl (lv_at hl 1 rfl) ?_
        obtain ⟨v_63, hv_63, h⟩ := ob h
        refine ag_38 hx hb hK hP hv_63 dX12_judgeSelect_315 ?_
        refine lv_iconst (v := 2) hx hb dX12_judgeSelect_316 (by decide) ?_
        obtain ⟨cs_64, hv_64, h⟩ := ob h
        refine calV (As := [.int v_63, .int 2]) hx hb hml hts hown hK hP hD hS hA hZ (s_want l dC dI cB cI cJ cZ h0 a K V fz F cs_62 v_63 2 cs_64 hv_64) (cw_want hts (fr := 1) (by show 1 + 1 ≤ n + 1 + 310; omega) (by show 8 + (3 + 11) + 60 * (1) ≤ 60 * (n + 1 + 310); omega)) rfl hl.1 (Nat.le_of_ble_eq_true rfl) ⟨Nat.zero_le _, Nat.zero_le _⟩ dX12_judgeSelect_317 (fun H locs hP hD hS => ?_)
        exact B_320 cs_64 u1 h _ _ _ hP hD hS (lv_sub hl [0, 1] rfl)
  have L_4 : ∀ (lf_4 : Nat), ∀ (cs1 : RS) (u1 : Int32) (u2 : Int32) (u3 : Int32), m_judgeSelect_L4 F T lf_4 cs1 u1 u2 u3 = some cs9 → ∀ (H : Heap) (locs : List Loc) (ls : Array Slot), va_P (dC, dI) vwCl (mW cB cI cJ cZ h0 a cs1) H → va_D A (mW cB cI cJ cZ h0 a cs1) → va_S A s.heap H locs → lv_has ls 7 [(0, .ref h0), (1, .int u1), (2, .int u2), (3, .int u3)] → W p l e (headSpec (wsOf yX12_judgeSelect cX12_judgeSelect 7 none) ({ frames := n + 1 + 310, cells := 0, slots := 0, locals := 60 * (n + 1 + 310) } : Room)).room s m ([.ref h0, .int x1] : List Value).toArray below meth c H locs 0 0 (MQ below (va_Qv (fun (_ : Unit) => True) (fun _ t_ => va_P (dC, dI) vwCl (mW cB cI cJ cZ h0 a cs9) t_.heap ∧ va_D A (mW cB cI cJ cZ h0 a cs9)) A) ([.ref h0, .int x1] : List Value).toArray s 0 0 A) (F0 m 4 ls []) := by
    intro lf_4
    induction lf_4 with
    | zero => intro cs1 u1 u2 u3 h; cases (show (none : Option RS) = _ from h)
    | succ lf_4 ih_4 =>
      have B_265 : ∀ (cs1 : RS) (u1 : Int32) (u2 : Int32) (u3 : Int32), m_judgeSelect_b265 F T (m_judgeSelect_L4 F T lf_4) cs1 u1 u2 u3 = some cs9 → ∀ (H : Heap) (locs : List Loc) (ls : Array Slot), va_P (dC, dI) vwCl (mW cB cI cJ cZ h0 a cs1) H → va_D A (mW cB cI cJ cZ h0 a cs1) → va_S A s.heap H locs → lv_has ls 7 [(0, .ref h0), (1, .int u1), (2, .int u2), (3, .int u3)] → W p l e (headSpec (wsOf yX12_judgeSelect cX12_judgeSelect 7 none) ({ frames := n + 1 + 310, cells := 0, slots := 0, locals := 60 * (n + 1 + 310) } : Room)).room s m ([.ref h0, .int x1] : List Value).toArray below meth c H locs 0 0 (MQ below (va_Qv (fun (_ : Unit) => True) (fun _ t_ => va_P (dC, dI) vwCl (mW cB cI cJ cZ h0 a cs9) t_.heap ∧ va_D A (mW cB cI cJ cZ h0 a cs9)) A) ([.ref h0, .int x1] : List Value).toArray s 0 0 A) (F0 m 265 ls []) := by
        intro cs1 u1 u2 u3 h H locs ls hP hD hS hl
        unfold m_judgeSelect_b265 at h
        refine lv_iinc (v := u3 + 1) (lv' := [(3, .int (u3 + 1)), (0, .ref h0), (1, .int u1), (2, .int u2)]) hx hb dX12_judgeSelect_265 hl (k := 3) rfl rfl (by decide) rfl (fun ls hl => ?_)
        refine lv_goto (tgt := 4) hx hb dX12_judgeSelect_268 (by decide) ?_
        exact ih_4 cs1 u1 u2 (u3 + 1) h _ _ _ hP hD hS (lv_sub hl [1, 2, 3, 0] rfl)
      have B_202 : ∀ (cs1 : RS) (u1 : Int32) (u3 : Int32) (u4 : Int32) (y0 : Int32) (y1 : Int32), m_judgeSelect_b202 F T (m_judgeSelect_L4 F T lf_4) cs1 u1 u3 u4 y0 y1 = some cs9 → ∀ (H : Heap) (locs : List Loc) (ls : Array Slot), va_P (dC, dI) vwCl (mW cB cI cJ cZ h0 a cs1) H → va_D A (mW cB cI cJ cZ h0 a cs1) → va_S A s.heap H locs → lv_has ls 7 [(0, .ref h0), (1, .int u1), (3, .int u3), (4, .int u4)] → W p l e (headSpec (wsOf yX12_judgeSelect cX12_judgeSelect 7 none) ({ frames := n + 1 + 310, cells := 0, slots := 0, locals := 60 * (n + 1 + 310) } : Room)).room s m ([.ref h0, .int x1] : List Value).toArray below meth c H locs 0 0 (MQ below (va_Qv (fun (_ : Unit) => True) (fun _ t_ => va_P (dC, dI) vwCl (mW cB cI cJ cZ h0 a cs9) t_.heap ∧ va_D A (mW cB cI cJ cZ h0 a cs9)) A) ([.ref h0, .int x1] : List Value).toArray s 0 0 A) (F0 m 202 ls [.int y0, .int y1]) := by
        intro cs1 u1 u3 u4 y0 y1 h H locs ls hP hD hS hl
        unfold m_judgeSelect_b202 at h
        refine lv_iadd hx hb dX12_judgeSelect_202 ?_
        refine lv_istore_n (lv' := [(2, .int (y1 + y0)), (0, .ref h0), (1, .int u1), (3, .int u3), (4, .int u4)]) hx hb dX12_judgeSelect_203 rfl hl (by decide) rfl (fun ls hl => ?_)
        refine lv_iload_n hx hb dX12_judgeSelect_204 rfl (lv_at hl 3 rfl) ?_
        refine lv_if_le (tgt := 265) hx hb dX12_judgeSelect_205 (by decide) (fun c_65 => ?_) (fun c_65 => ?_)
        · skip
          replace h := (if_pos c_65).symm.trans h
          exact B_265 cs1 u1 (y1 + y0) u3 h _ _ _ hP hD hS (lv_sub hl [1, 2, 0, 3] rfl)
        · skip
          replace h := (if_neg c_65).symm.trans h
          refine lv_aload_n hx hb dX12_judgeSelect_208 rfl (lv_at hl 1 rfl) ?_
          refine fg_21 hx hb hts hown hK hP dX12_judgeSelect_209 ?_
          refine lv_if_eq (tgt := 265) hx hb dX12_judgeSelect_212 (by decide) (fun c_66 => ?_) (fun c_66 => ?_)
          · skip
            replace h := (if_pos c_66).symm.trans h
            exact B_265 cs1 u1 (y1 + y0) u3 h _ _ _ hP hD hS (lv_sub hl [1, 2, 0, 3] rfl)
          · skip
            replace h := (if_neg c_66).symm.trans h
            refine lv_aload_n hx hb dX12_judgeSelect_215 rfl (lv_at hl 1 rfl) ?_
            refine lv_aload_n hx hb dX12_judgeSelect_216 rfl (lv_at hl 1 rfl) ?_
            refine lv_iload_n hx hb dX12_judgeSelect_217 rfl (lv_at hl 2 rfl) ?_
            refine lv_iload_n hx hb dX12_judgeSelect_218 rfl (lv_at hl 3 rfl) ?_
            refine lv_iconst (v := 1) hx hb dX12_judgeSelect_219 (by decide) ?_
            refine lv_iadd hx hb dX12_judgeSelect_220 ?_
            obtain ⟨v_67, hv_67, h⟩ := ob h
            refine calI (As := [.int u1, .int (u3 + 1)]) hx hb hml hts hown hK hP hD hS hA hZ (s_isKeptSelect l dC dI cB cI cJ cZ h0 a K V fz F 300 cs1 u1 (u3 + 1) v_67 hv_67) (cw_isKeptSelect hts (fr := 300) (by show 300 + 1 ≤ n + 1 + 310; omega) (by show 8 + (4 + 11) + 60 * (300) ≤ 60 * (n + 1 + 310); omega)) rfl hl.1 (Nat.le_of_ble_eq_true rfl) ⟨Nat.zero_le _, Nat.zero_le _⟩ dX12_judgeSelect_221 (fun H locs hP hD hS => ?_)
            refine lv_aload_n hx hb dX12_judgeSelect_224 rfl (lv_at hl 1 rfl) ?_
            refine fg_57 hx hb hts hown hK hP dX12_judgeSelect_225 ?_
            refine lv_iload hx hb dX12_judgeSelect_228 (lv_at hl 4 rfl) ?_
            obtain ⟨v_68, hv_68, h⟩ := ob h
            refine ag_57 hx hb hK hP hv_68 dX12_judgeSelect_230 ?_
            obtain ⟨cs_69, hv_69, h⟩ := ob h
            refine calV (As := [.int v_67, .int v_68]) hx hb hml hts hown hK hP hD hS hA hZ (s_bounded l dC dI cB cI cJ cZ h0 a K V fz F cs1 v_67 v_68 cs_69 hv_69) (cw_bounded hts (fr := 1) (by show 1 + 1 ≤ n + 1 + 310; omega) (by show 8 + (3 + 11) + 60 * (1) ≤ 60 * (n + 1 + 310); omega)) rfl hl.1 (Nat.le_of_ble_eq_true rfl) ⟨Nat.zero_le _, Nat.zero_le _⟩ dX12_judgeSelect_231 (fun H locs hP hD hS => ?_)
            refine lv_aload_n hx hb dX12_judgeSelect_234 rfl (lv_at hl 1 rfl) ?_
            refine lv_iload_n hx hb dX12_judgeSelect_235 rfl (lv_at hl 2 rfl) ?_
            refine lv_iload_n hx hb dX12_judgeSelect_236 rfl (lv_at hl 3 rfl) ?_
            refine lv_iconst (v := 1) hx hb dX12_judgeSelect_237 (by decide) ?_
            refine lv_iadd hx hb dX12_judgeSelect_238 ?_
            obtain ⟨cs_70, hv_70, h⟩ := ob h
            refine calV (As := [.int u1, .int (u3 + 1)]) hx hb hml hts hown hK hP hD hS hA hZ (s_sourcesOf l dC dI cB cI cJ cZ h0 a K V fz F cs_69 u1 (u3 + 1) cs_70 hv_70) (cw_sourcesOf hts (fr := 0) (by show 0 + 1 ≤ n + 1 + 310; omega) (by show 8 + (3 + 11) + 60 * (0) ≤ 60 * (n + 1 + 310); omega)) rfl hl.1 (Nat.le_of_ble_eq_true rfl) ⟨Nat.zero_le _, Nat.zero_le _⟩ dX12_judgeSelect_239 (fun H locs hP hD hS => ?_)
            refine lv_aload_n hx hb dX12_judgeSelect_242 rfl (lv_at hl 1 rfl) ?_
            refine lv_aload_n hx hb dX12_judgeSelect_243 rfl (lv_at hl 1 rfl) ?_
            refine fg_58 hx hb hts hown hK hP dX12_judgeSelect_244 ?_
            refine lv_iload hx hb dX12_judgeSelect_247 (lv_at hl 4 rfl) ?_
            obtain ⟨v_71, hv_71, h⟩ := ob h
            refine ag_58 hx hb hK hP hv_71 dX12_judgeSelect_249 ?_
            obtain ⟨cs_72, hv_72, h⟩ := ob h
            refine calV (As := [.int v_71]) hx hb hml hts hown hK hP hD hS hA hZ (s_judge l dC dI cB cI cJ cZ h0 a K V fz F 300 cs_70 v_71 cs_72 hv_72) (cw_judge hts (fr := 309) (by show 309 + 1 ≤ n + 1 + 310; omega) (by show 8 + (6 + 11) + 60 * (309) ≤ 60 * (n + 1 + 310); omega)) rfl hl.1 (Nat.le_of_ble_eq_true rfl) ⟨Nat.zero_le _, Nat.zero_le _⟩ dX12_judgeSelect_250 (fun H locs hP hD hS => ?_)
            refine lv_aload_n hx hb dX12_judgeSelect_253 rfl (lv_at hl 1 rfl) ?_
            refine lv_aload_n hx hb dX12_judgeSelect_254 rfl (lv_at hl 1 rfl) ?_
            refine fg_58 hx hb hts hown hK hP dX12_judgeSelect_255 ?_
            refine lv_iload hx hb dX12_judgeSelect_258 (lv_at hl 4 rfl) ?_
            obtain ⟨v_73, hv_73, h⟩ := ob h
            refine ag_58 hx hb hK hP hv_73 dX12_judgeSelect_260 ?_
            refine lv_iconst (v := 2) hx hb dX12_judgeSelect_261 (by decide) ?_
            obtain ⟨cs_74, hv_74, h⟩ := ob h
            refine calV (As := [.int v_73, .int 2]) hx hb hml hts hown hK hP hD hS hA hZ (s_want l dC dI cB cI cJ cZ h0 a K V fz F cs_72 v_73 2 cs_74 hv_74) (cw_want hts (fr := 1) (by show 1 + 1 ≤ n + 1 + 310; omega) (by show 8 + (3 + 11) + 60 * (1) ≤ 60 * (n + 1 + 310); omega)) rfl hl.1 (Nat.le_of_ble_eq_true rfl) ⟨Nat.zero_le _, Nat.zero_le _⟩ dX12_judgeSelect_262 (fun H locs hP hD hS => ?_)
            exact B_265 cs_74 u1 (y1 + y0) u3 h _ _ _ hP hD hS (lv_sub hl [1, 2, 0, 3] rfl)
      have L_122 : ∀ (lf_122 : Nat), ∀ (cs1 : RS) (u1 : Int32) (u2 : Int32) (u3 : Int32) (u4 : Int32) (u5 : Int32), m_judgeSelect_L122 F T (m_judgeSelect_L4 F T lf_4) lf_122 cs1 u1 u2 u3 u4 u5 = some cs9 → ∀ (H : Heap) (locs : List Loc) (ls : Array Slot), va_P (dC, dI) vwCl (mW cB cI cJ cZ h0 a cs1) H → va_D A (mW cB cI cJ cZ h0 a cs1) → va_S A s.heap H locs → lv_has ls 7 [(0, .ref h0), (1, .int u1), (2, .int u2), (3, .int u3), (4, .int u4), (5, .int u5)] → W p l e (headSpec (wsOf yX12_judgeSelect cX12_judgeSelect 7 none) ({ frames := n + 1 + 310, cells := 0, slots := 0, locals := 60 * (n + 1 + 310) } : Room)).room s m ([.ref h0, .int x1] : List Value).toArray below meth c H locs 0 0 (MQ below (va_Qv (fun (_ : Unit) => True) (fun _ t_ => va_P (dC, dI) vwCl (mW cB cI cJ cZ h0 a cs9) t_.heap ∧ va_D A (mW cB cI cJ cZ h0 a cs9)) A) ([.ref h0, .int x1] : List Value).toArray s 0 0 A) (F0 m 122 ls []) := by
        intro lf_122
        induction lf_122 with
        | zero => intro cs1 u1 u2 u3 u4 u5 h; cases (show (none : Option RS) = _ from h)
        | succ lf_122 ih_122 =>
          have B_170 : ∀ (cs1 : RS) (u1 : Int32) (u2 : Int32) (u3 : Int32) (u4 : Int32) (u5 : Int32), m_judgeSelect_b170 F T (m_judgeSelect_L4 F T lf_4) (m_judgeSelect_L122 F T (m_judgeSelect_L4 F T lf_4) lf_122) cs1 u1 u2 u3 u4 u5 = some cs9 → ∀ (H : Heap) (locs : List Loc) (ls : Array Slot), va_P (dC, dI) vwCl (mW cB cI cJ cZ h0 a cs1) H → va_D A (mW cB cI cJ cZ h0 a cs1) → va_S A s.heap H locs → lv_has ls 7 [(0, .ref h0), (1, .int u1), (2, .int u2), (3, .int u3), (4, .int u4), (5, .int u5)] → W p l e (headSpec (wsOf yX12_judgeSelect cX12_judgeSelect 7 none) ({ frames := n + 1 + 310, cells := 0, slots := 0, locals := 60 * (n + 1 + 310) } : Room)).room s m ([.ref h0, .int x1] : List Value).toArray below meth c H locs 0 0 (MQ below (va_Qv (fun (_ : Unit) => True) (fun _ t_ => va_P (dC, dI) vwCl (mW cB cI cJ cZ h0 a cs9) t_.heap ∧ va_D A (mW cB cI cJ cZ h0 a cs9)) A) ([.ref h0, .int x1] : List Value).toArray s 0 0 A) (F0 m 170 ls []) := by
            intro cs1 u1 u2 u3 u4 u5 h H locs ls hP hD hS hl
            unfold m_judgeSelect_b170 at h
            refine lv_iinc (v := u5 + 1) (lv' := [(5, .int (u5 + 1)), (0, .ref h0), (1, .int u1), (2, .int u2), (3, .int u3), (4, .int u4)]) hx hb dX12_judgeSelect_170 hl (k := 5) rfl rfl (by decide) rfl (fun ls hl => ?_)
            refine lv_goto (tgt := 122) hx hb dX12_judgeSelect_173 (by decide) ?_
            exact ih_122 cs1 u1 u2 u3 u4 (u5 + 1) h _ _ _ hP hD hS (lv_sub hl [1, 2, 3, 4, 5, 0] rfl)
          intro cs1 u1 u2 u3 u4 u5 h H locs ls hP hD hS hl
          rw [m_judgeSelect_L122] at h
          refine lv_iload hx hb dX12_judgeSelect_122 (lv_at hl 5 rfl) ?_
          refine lv_iload_n hx hb dX12_judgeSelect_124 rfl (lv_at hl 3 rfl) ?_
          refine lv_icmp_ge (tgt := 176) hx hb dX12_judgeSelect_125 (by decide) (fun c_75 => ?_) (fun c_75 => ?_)
          · skip
            replace h := (if_pos c_75).symm.trans h
            refine lv_aload_n hx hb dX12_judgeSelect_176 rfl (lv_at hl 0 rfl) ?_
            refine fg_79 hx hb hts hown hK hP dX12_judgeSelect_177 ?_
            refine lv_iload hx hb dX12_judgeSelect_180 (lv_at hl 4 rfl) ?_
            refine lv_iload_n hx hb dX12_judgeSelect_182 rfl (lv_at hl 2 rfl) ?_
            obtain ⟨cs_76, hv_76, h⟩ := ob h
            refine ap_79 hx hb hK hP hD hS hv_76 dX12_judgeSelect_183 (fun H locs hP hD hS => ?_)
            refine lv_iload_n hx hb dX12_judgeSelect_184 rfl (lv_at hl 2 rfl) ?_
            refine lv_aload_n hx hb dX12_judgeSelect_185 rfl (lv_at hl 0 rfl) ?_
            refine fg_21 hx hb hts hown hK hP dX12_judgeSelect_186 ?_
            refine lv_if_eq (tgt := 201) hx hb dX12_judgeSelect_189 (by decide) (fun c_77 => ?_) (fun c_77 => ?_)
            · skip
              replace h := (if_pos c_77).symm.trans h
              refine lv_iconst (v := 0) hx hb dX12_judgeSelect_201 (by decide) ?_
              exact B_202 cs_76 u1 u3 u4 0 u2 h _ _ _ hP hD hS (lv_sub hl [0, 1, 3, 4] rfl)
            · skip
              replace h := (if_neg c_77).symm.trans h
              refine lv_aload_n hx hb dX12_judgeSelect_192 rfl (lv_at hl 0 rfl) ?_
              refine lv_iload hx hb dX12_judgeSelect_193 (lv_at hl 4 rfl) ?_
              obtain ⟨v_78, hv_78, h⟩ := ob h
              refine calI (As := [.int u4]) hx hb hml hts hown hK hP hD hS hA hZ (s_columnsOf l dC dI cB cI cJ cZ h0 a K V fz F cs_76 u4 v_78 hv_78) (cw_columnsOf hts (fr := 0) (by show 0 + 1 ≤ n + 1 + 310; omega) (by show 8 + (2 + 11) + 60 * (0) ≤ 60 * (n + 1 + 310); omega)) rfl hl.1 (Nat.le_of_ble_eq_true rfl) ⟨Nat.zero_le _, Nat.zero_le _⟩ dX12_judgeSelect_195 (fun H locs hP hD hS => ?_)
              refine lv_goto (tgt := 202) hx hb dX12_judgeSelect_198 (by decide) ?_
              exact B_202 cs_76 u1 u3 u4 v_78 u2 h _ _ _ hP hD hS (lv_sub hl [0, 1, 3, 4] rfl)
          · skip
            replace h := (if_neg c_75).symm.trans h
            refine lv_aload_n hx hb dX12_judgeSelect_128 rfl (lv_at hl 0 rfl) ?_
            refine lv_aload_n hx hb dX12_judgeSelect_129 rfl (lv_at hl 0 rfl) ?_
            refine fg_55 hx hb hts hown hK hP dX12_judgeSelect_130 ?_
            refine lv_iload hx hb dX12_judgeSelect_133 (lv_at hl 4 rfl) ?_
            obtain ⟨v_79, hv_79, h⟩ := ob h
            refine ag_55 hx hb hK hP hv_79 dX12_judgeSelect_135 ?_
            refine lv_aload_n hx hb dX12_judgeSelect_136 rfl (lv_at hl 0 rfl) ?_
            refine fg_55 hx hb hts hown hK hP dX12_judgeSelect_137 ?_
            refine lv_iconst (v := 3) hx hb dX12_judgeSelect_140 (by decide) ?_
            refine lv_iload_n hx hb dX12_judgeSelect_141 rfl (lv_at hl 1 rfl) ?_
            refine lv_imul hx hb dX12_judgeSelect_142 ?_
            refine lv_iload hx hb dX12_judgeSelect_143 (lv_at hl 5 rfl) ?_
            refine lv_iadd hx hb dX12_judgeSelect_145 ?_
            obtain ⟨v_80, hv_80, h⟩ := ob h
            refine ag_55 hx hb hK hP hv_80 dX12_judgeSelect_146 ?_
            obtain ⟨v_81, hv_81, h⟩ := ob h
            refine calI (As := [.int v_79, .int v_80]) hx hb hml hts hown hK hP hD hS hA hZ (s_isSame l dC dI cB cI cJ cZ h0 a K V fz F cs1 v_79 v_80 v_81 hv_81) (cw_isSame hts (fr := 0) (by show 0 + 1 ≤ n + 1 + 310; omega) (by show 8 + (4 + 11) + 60 * (0) ≤ 60 * (n + 1 + 310); omega)) rfl hl.1 (Nat.le_of_ble_eq_true rfl) ⟨Nat.zero_le _, Nat.zero_le _⟩ dX12_judgeSelect_147 (fun H locs hP hD hS => ?_)
            refine lv_if_eq (tgt := 170) hx hb dX12_judgeSelect_150 (by decide) (fun c_82 => ?_) (fun c_82 => ?_)
            · skip
              replace h := (if_pos c_82).symm.trans h
              exact B_170 cs1 u1 u2 u3 u4 u5 h _ _ _ hP hD hS (lv_sub hl [0, 1, 2, 3, 4, 5] rfl)
            · skip
              replace h := (if_neg c_82).symm.trans h
              refine lv_aload_n hx hb dX12_judgeSelect_153 rfl (lv_at hl 0 rfl) ?_
              refine lv_iconst (v := 2) hx hb dX12_judgeSelect_154 (by decide) ?_
              refine lv_aload_n hx hb dX12_judgeSelect_155 rfl (lv_at hl 0 rfl) ?_
              refine fg_15 hx hb hts hown hK hP dX12_judgeSelect_156 ?_
              refine lv_aload_n hx hb dX12_judgeSelect_159 rfl (lv_at hl 0 rfl) ?_
              refine fg_55 hx hb hts hown hK hP dX12_judgeSelect_160 ?_
              refine lv_iload hx hb dX12_judgeSelect_163 (lv_at hl 4 rfl) ?_
              obtain ⟨v_83, hv_83, h⟩ := ob h
              refine ag_55 hx hb hK hP hv_83 dX12_judgeSelect_165 ?_
              obtain ⟨v_84, hv_84, h⟩ := ob h
              refine ag_15 hx hb hK hP hv_84 dX12_judgeSelect_166 ?_
              obtain ⟨cs_85, hv_85, h⟩ := ob h
              refine calV (As := [.int 2, .int v_84]) hx hb hml hts hown hK hP hD hS hA hZ (s_tell l dC dI cB cI cJ cZ h0 a K V fz F cs1 2 v_84 cs_85 hv_85) (cw_tell hts (fr := 0) (by show 0 + 1 ≤ n + 1 + 310; omega) (by show 8 + (3 + 11) + 60 * (0) ≤ 60 * (n + 1 + 310); omega)) rfl hl.1 (Nat.le_of_ble_eq_true rfl) ⟨Nat.zero_le _, Nat.zero_le _⟩ dX12_judgeSelect_167 (fun H locs hP hD hS => ?_)
              exact B_170 cs_85 u1 u2 u3 u4 u5 h _ _ _ hP hD hS (lv_sub hl [0, 1, 2, 3, 4, 5] rfl)
      have B_119 : ∀ (cs1 : RS) (u1 : Int32) (u2 : Int32) (u3 : Int32) (u4 : Int32), m_judgeSelect_b119 F T (m_judgeSelect_L4 F T lf_4) cs1 u1 u2 u3 u4 = some cs9 → ∀ (H : Heap) (locs : List Loc) (ls : Array Slot), va_P (dC, dI) vwCl (mW cB cI cJ cZ h0 a cs1) H → va_D A (mW cB cI cJ cZ h0 a cs1) → va_S A s.heap H locs → lv_has ls 7 [(0, .ref h0), (1, .int u1), (2, .int u2), (3, .int u3), (4, .int u4)] → W p l e (headSpec (wsOf yX12_judgeSelect cX12_judgeSelect 7 none) ({ frames := n + 1 + 310, cells := 0, slots := 0, locals := 60 * (n + 1 + 310) } : Room)).room s m ([.ref h0, .int x1] : List Value).toArray below meth c H locs 0 0 (MQ below (va_Qv (fun (_ : Unit) => True) (fun _ t_ => va_P (dC, dI) vwCl (mW cB cI cJ cZ h0 a cs9) t_.heap ∧ va_D A (mW cB cI cJ cZ h0 a cs9)) A) ([.ref h0, .int x1] : List Value).toArray s 0 0 A) (F0 m 119 ls []) := by
        intro cs1 u1 u2 u3 u4 h H locs ls hP hD hS hl
        unfold m_judgeSelect_b119 at h
        refine lv_iconst (v := 0) hx hb dX12_judgeSelect_119 (by decide) ?_
        refine lv_istore (lv' := [(5, .int 0), (0, .ref h0), (1, .int u1), (2, .int u2), (3, .int u3), (4, .int u4)]) hx hb dX12_judgeSelect_120 hl (by decide) rfl (fun ls hl => ?_)
        exact L_122 F cs1 u1 u2 u3 u4 0 h _ _ _ hP hD hS (lv_sub hl [1, 2, 3, 4, 5, 0] rfl)
      intro cs1 u1 u2 u3 h H locs ls hP hD hS hl
      rw [m_judgeSelect_L4] at h
      refine lv_iload_n hx hb dX12_judgeSelect_4 rfl (lv_at hl 3 rfl) ?_
      refine lv_aload_n hx hb dX12_judgeSelect_5 rfl (lv_at hl 0 rfl) ?_
      refine fg_37 hx hb hts hown hK hP dX12_judgeSelect_6 ?_
      refine lv_iload_n hx hb dX12_judgeSelect_9 rfl (lv_at hl 1 rfl) ?_
      obtain ⟨v_86, hv_86, h⟩ := ob h
      refine ag_37 hx hb hK hP hv_86 dX12_judgeSelect_10 ?_
      refine lv_icmp_ge (tgt := 271) hx hb dX12_judgeSelect_11 (by decide) (fun c_87 => ?_) (fun c_87 => ?_)
      · skip
        replace h := (if_pos c_87).symm.trans h
        exact B_271 cs1 u1 h _ _ _ hP hD hS (lv_sub hl [0, 1] rfl)
      · skip
        replace h := (if_neg c_87).symm.trans h
        refine lv_aload_n hx hb dX12_judgeSelect_14 rfl (lv_at hl 0 rfl) ?_
        refine fg_21 hx hb hts hown hK hP dX12_judgeSelect_15 ?_
        refine lv_if_eq (tgt := 271) hx hb dX12_judgeSelect_18 (by decide) (fun c_88 => ?_) (fun c_88 => ?_)
        · skip
          replace h := (if_pos c_88).symm.trans h
          exact B_271 cs1 u1 h _ _ _ hP hD hS (lv_sub hl [0, 1] rfl)
        · skip
          replace h := (if_neg c_88).symm.trans h
          refine lv_iconst (v := 3) hx hb dX12_judgeSelect_21 (by decide) ?_
          refine lv_iload_n hx hb dX12_judgeSelect_22 rfl (lv_at hl 1 rfl) ?_
          refine lv_imul hx hb dX12_judgeSelect_23 ?_
          refine lv_iload_n hx hb dX12_judgeSelect_24 rfl (lv_at hl 3 rfl) ?_
          refine lv_iadd hx hb dX12_judgeSelect_25 ?_
          refine lv_istore (lv' := [(4, .int ((3 * u1) + u3)), (0, .ref h0), (1, .int u1), (2, .int u2), (3, .int u3)]) hx hb dX12_judgeSelect_26 hl (by decide) rfl (fun ls hl => ?_)
          refine lv_aload_n hx hb dX12_judgeSelect_28 rfl (lv_at hl 1 rfl) ?_
          refine fg_49 hx hb hts hown hK hP dX12_judgeSelect_29 ?_
          refine lv_iload hx hb dX12_judgeSelect_32 (lv_at hl 0 rfl) ?_
          obtain ⟨v_89, hv_89, h⟩ := ob h
          refine ag_49 hx hb hK hP hv_89 dX12_judgeSelect_34 ?_
          refine lv_iconst (v := (-1)) hx hb dX12_judgeSelect_35 (by decide) ?_
          refine lv_icmp_eq (tgt := 68) hx hb dX12_judgeSelect_36 (by decide) (fun c_90 => ?_) (fun c_90 => ?_)
          · skip
            replace h := (if_pos c_90).symm.trans h
            refine lv_aload_n hx hb dX12_judgeSelect_68 rfl (lv_at hl 1 rfl) ?_
            refine lv_aload_n hx hb dX12_judgeSelect_69 rfl (lv_at hl 1 rfl) ?_
            refine fg_53 hx hb hts hown hK hP dX12_judgeSelect_70 ?_
            refine lv_iload hx hb dX12_judgeSelect_73 (lv_at hl 0 rfl) ?_
            obtain ⟨v_91, hv_91, h⟩ := ob h
            refine ag_53 hx hb hK hP hv_91 dX12_judgeSelect_75 ?_
            obtain ⟨cs_92, hv_92, h⟩ := ob h
            refine calV (As := [.int v_91]) hx hb hml hts hown hK hP hD hS hA hZ (hT_judgeQuery cs1 v_91 cs_92 hv_92) (cw_judgeQuery hts (fr := n + 310) (by show n + 310 + 1 ≤ n + 1 + 310; omega) (by show 8 + (9 + 11) + 60 * (n + 310) ≤ 60 * (n + 1 + 310); omega)) rfl hl.1 (Nat.le_of_ble_eq_true rfl) ⟨Nat.zero_le _, Nat.zero_le _⟩ dX12_judgeSelect_76 (fun H locs hP hD hS => ?_)
            refine lv_aload_n hx hb dX12_judgeSelect_79 rfl (lv_at hl 1 rfl) ?_
            refine fg_21 hx hb hts hown hK hP dX12_judgeSelect_80 ?_
            refine lv_if_eq (tgt := 119) hx hb dX12_judgeSelect_83 (by decide) (fun c_93 => ?_) (fun c_93 => ?_)
            · skip
              replace h := (if_pos c_93).symm.trans h
              exact B_119 cs_92 u1 u2 u3 ((3 * u1) + u3) h _ _ _ hP hD hS (lv_sub hl [1, 2, 3, 4, 0] rfl)
            · skip
              replace h := (if_neg c_93).symm.trans h
              refine lv_aload_n hx hb dX12_judgeSelect_86 rfl (lv_at hl 1 rfl) ?_
              refine lv_aload_n hx hb dX12_judgeSelect_87 rfl (lv_at hl 1 rfl) ?_
              refine fg_61 hx hb hts hown hK hP dX12_judgeSelect_88 ?_
              refine lv_iconst (v := 5) hx hb dX12_judgeSelect_91 (by decide) ?_
              refine lv_aload_n hx hb dX12_judgeSelect_92 rfl (lv_at hl 1 rfl) ?_
              refine fg_53 hx hb hts hown hK hP dX12_judgeSelect_93 ?_
              refine lv_iload hx hb dX12_judgeSelect_96 (lv_at hl 0 rfl) ?_
              obtain ⟨v_94, hv_94, h⟩ := ob h
              refine ag_53 hx hb hK hP hv_94 dX12_judgeSelect_98 ?_
              refine lv_imul hx hb dX12_judgeSelect_99 ?_
              obtain ⟨v_95, hv_95, h⟩ := ob h
              refine ag_61 hx hb hK hP hv_95 dX12_judgeSelect_100 ?_
              obtain ⟨v_96, hv_96, h⟩ := ob h
              refine calI (As := [.int v_95]) hx hb hml hts hown hK hP hD hS hA hZ (s_areNamed l dC dI cB cI cJ cZ h0 a K V fz F cs_92 v_95 v_96 hv_96) (cw_areNamed hts (fr := 1) (by show 1 + 1 ≤ n + 1 + 310; omega) (by show 8 + (5 + 11) + 60 * (1) ≤ 60 * (n + 1 + 310); omega)) rfl hl.1 (Nat.le_of_ble_eq_true rfl) ⟨Nat.zero_le _, Nat.zero_le _⟩ dX12_judgeSelect_101 (fun H locs hP hD hS => ?_)
              refine lv_if_ne (tgt := 119) hx hb dX12_judgeSelect_104 (by decide) (fun c_97 => ?_) (fun c_97 => ?_)
              · skip
                replace h := (if_neg c_97).symm.trans h
                exact B_119 cs_92 u1 u2 u3 ((3 * u1) + u3) h _ _ _ hP hD hS (lv_sub hl [1, 2, 3, 4, 0] rfl)
              · skip
                replace h := (if_pos c_97).symm.trans h
                refine lv_aload_n hx hb dX12_judgeSelect_107 rfl (lv_at hl 1 rfl) ?_
                refine lv_iconst (v := 2) hx hb dX12_judgeSelect_108 (by decide) ?_
                refine lv_aload_n hx hb dX12_judgeSelect_109 rfl (lv_at hl 1 rfl) ?_
                refine fg_54 hx hb hts hown hK hP dX12_judgeSelect_110 ?_
                refine lv_iload hx hb dX12_judgeSelect_113 (lv_at hl 0 rfl) ?_
                obtain ⟨v_98, hv_98, h⟩ := ob h
                refine ag_54 hx hb hK hP hv_98 dX12_judgeSelect_115 ?_
                obtain ⟨cs_99, hv_99, h⟩ := ob h
                refine calV (As := [.int 2, .int v_98]) hx hb hml hts hown hK hP hD hS hA hZ (s_tell l dC dI cB cI cJ cZ h0 a K V fz F cs_92 2 v_98 cs_99 hv_99) (cw_tell hts (fr := 0) (by show 0 + 1 ≤ n + 1 + 310; omega) (by show 8 + (3 + 11) + 60 * (0) ≤ 60 * (n + 1 + 310); omega)) rfl hl.1 (Nat.le_of_ble_eq_true rfl) ⟨Nat.zero_le _, Nat.zero_le _⟩ dX12_judgeSelect_116 (fun H locs hP hD hS => ?_)
                exact B_119 cs_99 u1 u2 u3 ((3 * u1) + u3) h _ _ _ hP hD hS (lv_sub hl [1, 2, 3, 4, 0] rfl)
          · skip
            replace h := (if_neg c_90).symm.trans h
            refine lv_aload_n hx hb dX12_judgeSelect_39 rfl (lv_at hl 1 rfl) ?_
            refine fg_49 hx hb hts hown hK hP dX12_judgeSelect_40 ?_
            refine lv_iload hx hb dX12_judgeSelect_43 (lv_at hl 0 rfl) ?_
            obtain ⟨v_100, hv_100, h⟩ := ob h
            refine ag_49 hx hb hK hP hv_100 dX12_judgeSelect_45 ?_
            refine lv_aload_n hx hb dX12_judgeSelect_46 rfl (lv_at hl 1 rfl) ?_
            refine fg_4 hx hb hts hown hK hP dX12_judgeSelect_47 ?_
            refine lv_icmp_lt (tgt := 119) hx hb dX12_judgeSelect_50 (by decide) (fun c_101 => ?_) (fun c_101 => ?_)
            · skip
              replace h := (if_pos c_101).symm.trans h
              exact B_119 cs1 u1 u2 u3 ((3 * u1) + u3) h _ _ _ hP hD hS (lv_sub hl [1, 2, 3, 4, 0] rfl)
            · skip
              replace h := (if_neg c_101).symm.trans h
              refine lv_aload_n hx hb dX12_judgeSelect_53 rfl (lv_at hl 1 rfl) ?_
              refine lv_iconst (v := 2) hx hb dX12_judgeSelect_54 (by decide) ?_
              refine lv_aload_n hx hb dX12_judgeSelect_55 rfl (lv_at hl 1 rfl) ?_
              refine fg_50 hx hb hts hown hK hP dX12_judgeSelect_56 ?_
              refine lv_iload hx hb dX12_judgeSelect_59 (lv_at hl 0 rfl) ?_
              obtain ⟨v_102, hv_102, h⟩ := ob h
              refine ag_50 hx hb hK hP hv_102 dX12_judgeSelect_61 ?_
              obtain ⟨cs_103, hv_103, h⟩ := ob h
              refine calV (As := [.int 2, .int v_102]) hx hb hml hts hown hK hP hD hS hA hZ (s_tell l dC dI cB cI cJ cZ h0 a K V fz F cs1 2 v_102 cs_103 hv_103) (cw_tell hts (fr := 0) (by show 0 + 1 ≤ n + 1 + 310; omega) (by show 8 + (3 + 11) + 60 * (0) ≤ 60 * (n + 1 + 310); omega)) rfl hl.1 (Nat.le_of_ble_eq_true rfl) ⟨Nat.zero_le _, Nat.zero_le _⟩ dX12_judgeSelect_62 (fun H locs hP hD hS => ?_)
              refine lv_goto (tgt := 119) hx hb dX12_judgeSelect_65 (by decide) ?_
              exact B_119 cs_103 u1 u2 u3 ((3 * u1) + u3) h _ _ _ hP hD hS (lv_sub hl [1, 2, 3, 4, 0] rfl)
  have h := hf
  unfold b_judgeSelect at h
  refine lv_iconst (v := 0) hx hb dX12_judgeSelect_0 (by decide) ?_
  refine lv_istore_n (lv' := [(2, .int 0), (0, .ref h0), (1, .int x1)]) hx hb dX12_judgeSelect_1 rfl hl (by decide) rfl (fun ls hl => ?_)
  refine lv_iconst (v := 0) hx hb dX12_judgeSelect_2 (by decide) ?_
  refine lv_istore_n (lv' := [(3, .int 0), (2, .int 0), (0, .ref h0), (1, .int x1)]) hx hb dX12_judgeSelect_3 rfl hl (by decide) rfl (fun ls hl => ?_)
  exact L_4 F cs x1 0 0 h _ _ _ hP hD hS (lv_sub hl [2, 3, 1, 0] rfl)
theorem sg_judgeQuery (l : Launch) (dC : Nat → ClassId) (dI : Nat → Nat → Nat) (cB cI cJ cZ : ClassId) (h0 : Nat) (a : Nat → Nat) (K V : Nat → Nat) (fz : Value) (F : Nat) : ∀ n : Nat, (∀ (cs : RS) (x1 : Int32) (cs9 : RS), (tab_judgeQuery F n).1 cs x1 = some cs9 → okV l dC dI cB cI cJ cZ h0 a K V fz yX12_judgeQuery (wsOf yX12_judgeQuery cX12_judgeQuery 9 none) (n + 310) [.ref h0, .int x1] cs cs9) ∧ (∀ (cs : RS) (x1 : Int32) (cs9 : RS), (tab_judgeQuery F n).2 cs x1 = some cs9 → okV l dC dI cB cI cJ cZ h0 a K V fz yX12_judgeSelect (wsOf yX12_judgeSelect cX12_judgeSelect 7 none) (n + 310) [.ref h0, .int x1] cs cs9) := by
  intro n
  induction n with
  | zero => exact ⟨fun _ _ _ h => (by cases (show (none : Option RS) = _ from h)), fun _ _ _ h => (by cases (show (none : Option RS) = _ from h))⟩
  | succ n ih =>
    obtain ⟨hh0, hh1⟩ := ih
    exact ⟨fun cs w0 w1 hf => sb_judgeQuery l dC dI cB cI cJ cZ h0 a K V fz F n (tab_judgeQuery F n) hh0 hh1 cs w0 w1 hf, fun cs w0 w1 hf => sb_judgeSelect l dC dI cB cI cJ cZ h0 a K V fz F n (tab_judgeQuery F n) hh0 hh1 cs w0 w1 hf⟩
def m_judgeQuery (F n : Nat) (cs : RS) (x1 : Int32) : Option RS := (tab_judgeQuery F n).1 cs x1
theorem s_judgeQuery (l : Launch) (dC : Nat → ClassId) (dI : Nat → Nat → Nat) (cB cI cJ cZ : ClassId) (h0 : Nat) (a : Nat → Nat) (K V : Nat → Nat) (fz : Value) (F n : Nat) (cs : RS) (x1 : Int32) (cs9 : RS) (hf : m_judgeQuery F n cs x1 = some cs9) : okV l dC dI cB cI cJ cZ h0 a K V fz yX12_judgeQuery (wsOf yX12_judgeQuery cX12_judgeQuery 9 none) (n + 310) [.ref h0, .int x1] cs cs9 := (sg_judgeQuery l dC dI cB cI cJ cZ h0 a K V fz F n).1 cs x1 cs9 hf
def m_judgeSelect (F n : Nat) (cs : RS) (x1 : Int32) : Option RS := (tab_judgeQuery F n).2 cs x1
theorem s_judgeSelect (l : Launch) (dC : Nat → ClassId) (dI : Nat → Nat → Nat) (cB cI cJ cZ : ClassId) (h0 : Nat) (a : Nat → Nat) (K V : Nat → Nat) (fz : Value) (F n : Nat) (cs : RS) (x1 : Int32) (cs9 : RS) (hf : m_judgeSelect F n cs x1 = some cs9) : okV l dC dI cB cI cJ cZ h0 a K V fz yX12_judgeSelect (wsOf yX12_judgeSelect cX12_judgeSelect 7 none) (n + 310) [.ref h0, .int x1] cs cs9 := (sg_judgeQuery l dC dI cB cI cJ cZ h0 a K V fz F n).2 cs x1 cs9 hf
